/-! all that the hours before may have bound the machines to -/

set_option maxHeartbeats 4000000 in
set_option maxRecDepth 100000 in
theorem c_Sa_digitOf (l : Launch) (D : va_G) (k : Nat → ClassId) (sz : Nat) (st kk : Nat) (hs : st < 2147483648) (hk : kk < 3) : Met l y_Sa_digitOf (uw y_Sa_digitOf b_Sa_digitOf 2 (some .int)) (rU 0 0 0) (va_Pc [.int (nI st), .int (nI kk)] (bP (gU D k) [] sz)) (va_Qi (fun (r : Int32) (_ : Unit) => r = nI (dg st kk)) (fun u => bQ (gU D k) (va_A [] sz) ([])) (va_A [] sz)) (rU 0 0 0).cells (rU 0 0 0).slots (va_A [] sz) := by
  refine b_start (Qc := fun A => va_Qi (fun (r : Int32) (_ : Unit) => r = nI (dg st kk)) (fun u => bQ (gU D k) A ([])) A) (by decide +kernel) (Nat.le_of_ble_eq_true rfl) ?_
  intro p e s m below meth c A hm hnm hw ls hl
  have hl : lv_has ls 2 [(0, .int (nI st)), (1, .int (nI kk))] := hl
  have hx := hm.1
  have hb := hm.2.1
  have hown := hm.2.2.2.2.1
  have hts := hm.2.2.2.2.2.1
  refine lv_iload_n hx hb d_Sa_digitOf_0 rfl (lv_at hl 0 rfl) ?_
  refine lv_iconst (v := nI 3) hx hb d_Sa_digitOf_1 (by decide) ?_
  refine lv_iload_n hx hb d_Sa_digitOf_2 rfl (lv_at hl 1 rfl) ?_
  refine lv_imul hx hb d_Sa_digitOf_3 ?_
  refine b_ti (pk_mul 3 kk) ?_
  refine lv_ishr hx hb d_Sa_digitOf_4 ?_
  refine b_ti (nI_shr (a := st) (b := 3 * kk) (by omega) (by omega)) ?_
  refine lv_bipush (v := nI 7) hx hb d_Sa_digitOf_5 (by decide) ?_
  refine lv_iand hx hb d_Sa_digitOf_7 ?_
  refine b_ti (nI_and (st / 2 ^ (3 * kk)) 7) ?_
  exact b_iret () hm hw (by rw [dg_eq]) d_Sa_digitOf_8

def bdI (st : Nat) (RB0 MR0 MP0 : Nat → Nat) (i : Nat) (RB MR MP : Nat → Nat) : Prop := RB st = rbA st i ∧ MR st = mrA st i ∧ MP st = mpA st i ∧ ∀ j, j ≠ st → RB j = RB0 j ∧ MR j = MR0 j ∧ MP j = MP0 j

set_option maxHeartbeats 4000000 in
set_option maxRecDepth 100000 in
theorem lp_Sa_bindAll {l : Launch} {D : va_G} {k : Nat → ClassId} {sa rc rb mr mpp af ho ma fa cn st n : Nat} {RB0 MR0 MP0 : Nat → Nat} (hc : cn ≤ 3) (hs : st < 512) {p : Program} {e : Env} {s : State} {m : MethodId} {below : List Frame} {meth : Method} {c : Code} {A : Nat → Prop} (hm : bM p s m (([.ref sa, .ref ho, .int (nI st)] : List Value).toArray) meth c "HeatMachines$States" b_Sa_bindAll 5 none (uw y_Sa_bindAll b_Sa_bindAll 5 none)) (hnm : meth.name = "bindAll") :
    ∀ (f : Nat) (i : Nat) (RB MR MP : Nat → Nat), cn + 1 ≤ i + f → i ≤ cn → bdI st RB0 MR0 MP0 i RB MR MP → ∀ (H : Heap) (locs : List Loc) (ls : Array Slot), bW (gU D k) A s H locs [(sa, .inr (5, [.ref rc, .int (nI n), .ref rb, .ref mr, .ref mpp, .ref af])), (rb, .inl (k 0, 512, .inl (fun j => nI (RB j)))), (mr, .inl (k 0, 512, .inl (fun j => nI (MR j)))), (mpp, .inl (k 0, 512, .inl (fun j => nI (MP j)))), (ho, .inr (1, [.ref ma, .int (nI cn), .ref fa]))] → lv_has ls 5 [(3, .int (nI i)), (0, .ref sa), (1, .ref ho), (2, .int (nI st))] → W p l e (rU 1 0 0) s m (([.ref sa, .ref ho, .int (nI st)] : List Value).toArray) below meth c H locs 0 0 (MQ below (va_Qv (fun (u : (Nat → Nat) × (Nat → Nat) × (Nat → Nat)) => bdI st RB0 MR0 MP0 cn u.1 u.2.1 u.2.2) (fun u => bQ (gU D k) A ([(sa, .inr (5, [.ref rc, .int (nI n), .ref rb, .ref mr, .ref mpp, .ref af])), (rb, .inl (k 0, 512, .inl (fun j => nI (u.1 j)))), (mr, .inl (k 0, 512, .inl (fun j => nI (u.2.1 j)))), (mpp, .inl (k 0, 512, .inl (fun j => nI (u.2.2 j)))), (ho, .inr (1, [.ref ma, .int (nI cn), .ref fa]))])) A) (([.ref sa, .ref ho, .int (nI st)] : List Value).toArray) s (rU 1 0 0).cells (rU 1 0 0).slots A) (F0 m 23 ls []) := by
  have hx := hm.1
  have hb := hm.2.1
  have hown := hm.2.2.2.2.1
  have hts := hm.2.2.2.2.2.1
  intro f
  induction f with
  | zero => intro i RB MR MP hf hi hI; exfalso; omega
  | succ f ih =>
    intro i RB MR MP hf hi hI H locs ls hw hl
    refine lv_iload_n hx hb d_Sa_bindAll_23 rfl (lv_at hl 0 rfl) ?_
    refine lv_aload_n hx hb d_Sa_bindAll_24 rfl (lv_at hl 2 rfl) ?_
    refine b_getN (T := F_Ho) hm hw 4 rfl rfl (fun w h => uw_of w (u_Ho w h)) 1 (by decide) (k_102) rfl d_Sa_bindAll_25 ?_
    refine lv_icmp_ge (tgt := 115) hx hb d_Sa_bindAll_28 (by decide) (fun c_28_0 => ?_) (fun c_28_0 => ?_)
    · skip
      have h_28_0 : cn ≤ i := yge c_28_0 (by omega) (by omega)
      exact b_vret (post := fun (u : (Nat → Nat) × (Nat → Nat) × (Nat → Nat)) => bdI st RB0 MR0 MP0 cn u.1 u.2.1 u.2.2) (w' := fun u => [(sa, .inr (5, [.ref rc, .int (nI n), .ref rb, .ref mr, .ref mpp, .ref af])), (rb, .inl (k 0, 512, .inl (fun j => nI (u.1 j)))), (mr, .inl (k 0, 512, .inl (fun j => nI (u.2.1 j)))), (mpp, .inl (k 0, 512, .inl (fun j => nI (u.2.2 j)))), (ho, .inr (1, [.ref ma, .int (nI cn), .ref fa]))]) (RB, MR, MP) hm hw (by have e : i = cn := (by omega); rw [← e]; exact hI) d_Sa_bindAll_115
    · skip
      have h_28_0 : i < cn := yltN c_28_0 (by omega) (by omega)
      refine lv_iload_n hx hb d_Sa_bindAll_31 rfl (lv_at hl 3 rfl) ?_
      refine lv_iload_n hx hb d_Sa_bindAll_32 rfl (lv_at hl 0 rfl) ?_
      refine b_goi (wr := [(sa, .inr (5, [.ref rc, .int (nI n), .ref rb, .ref mr, .ref mpp, .ref af])), (rb, .inl (k 0, 512, .inl (fun j => nI (RB j)))), (mr, .inl (k 0, 512, .inl (fun j => nI (MR j)))), (mpp, .inl (k 0, 512, .inl (fun j => nI (MP j)))), (ho, .inr (1, [.ref ma, .int (nI cn), .ref fa]))]) (b_runS (wc := []) (As := [.int (nI st), .int (nI i)]) (rest := []) hm hw (va_cwS 2 hts (gS2 uw_of k_413 k_411 k_412 k_7) rfl rfl rfl (by decide +kernel) ⟨by decide, by decide⟩) (c_Sa_digitOf l D k _ st i (by omega) (by omega)) [] (by decide) rfl rfl hl.1 rfl (Nat.le_of_ble_eq_true rfl) d_Sa_bindAll_33 ⟨by decide, by decide⟩) hw [] [0, 1, 2, 3, 4] rfl rfl (by decide) (by decide) (fun r33 _ H locs hp33 hw => ?_)
      have hw : bW (gU D k) A s H locs [(sa, .inr (5, [.ref rc, .int (nI n), .ref rb, .ref mr, .ref mpp, .ref af])), (rb, .inl (k 0, 512, .inl (fun j => nI (RB j)))), (mr, .inl (k 0, 512, .inl (fun j => nI (MR j)))), (mpp, .inl (k 0, 512, .inl (fun j => nI (MP j)))), (ho, .inr (1, [.ref ma, .int (nI cn), .ref fa]))] := hw.sub [0, 1, 2, 3, 4] (by decide) rfl
      refine b_ti hp33 ?_
      have hdl := dg_lt st i
      refine lv_istore (lv' := [(4, .int (nI (dg st i))), (3, .int (nI i)), (0, .ref sa), (1, .ref ho), (2, .int (nI st))]) hx hb d_Sa_bindAll_36  hl (by decide) rfl (fun ls hl => ?_)
      refine lv_iload hx hb d_Sa_bindAll_38 (lv_at hl 0 rfl) ?_
      refine b_goi (wr := [(sa, .inr (5, [.ref rc, .int (nI n), .ref rb, .ref mr, .ref mpp, .ref af])), (rb, .inl (k 0, 512, .inl (fun j => nI (RB j)))), (mr, .inl (k 0, 512, .inl (fun j => nI (MR j)))), (mpp, .inl (k 0, 512, .inl (fun j => nI (MP j)))), (ho, .inr (1, [.ref ma, .int (nI cn), .ref fa]))]) (b_runS (wc := []) (As := [.int (nI (dg st i))]) (rest := []) hm hw (va_cwS 1 hts (gS2 uw_of k_406 k_414 k_405 k_4) rfl rfl rfl (by decide +kernel) ⟨by decide, by decide⟩) (c_Mc_hasRun l D k _ (dg st i) hdl) [] (by decide) rfl rfl hl.1 rfl (Nat.le_of_ble_eq_true rfl) d_Sa_bindAll_40 ⟨by decide, by decide⟩) hw [] [0, 1, 2, 3, 4] rfl rfl (by decide) (by decide) (fun r40 _ H locs hp40 hw => ?_)
      have hw : bW (gU D k) A s H locs [(sa, .inr (5, [.ref rc, .int (nI n), .ref rb, .ref mr, .ref mpp, .ref af])), (rb, .inl (k 0, 512, .inl (fun j => nI (RB j)))), (mr, .inl (k 0, 512, .inl (fun j => nI (MR j)))), (mpp, .inl (k 0, 512, .inl (fun j => nI (MP j)))), (ho, .inr (1, [.ref ma, .int (nI cn), .ref fa]))] := hw.sub [0, 1, 2, 3, 4] (by decide) rfl
      refine lv_if_eq (tgt := 85) hx hb d_Sa_bindAll_43 (by decide) (fun c_43_1 => ?_) (fun c_43_1 => ?_)
      · skip
        refine lv_aload_n hx hb d_Sa_bindAll_85 rfl (lv_at hl 2 rfl) ?_
        refine b_get (T := F_Sa) hm hw 0 rfl rfl (fun w h => uw_of w (u_Sa w h)) 4 (by decide) (uw_of _ k_128) rfl d_Sa_bindAll_86 ?_
        refine lv_iload_n hx hb d_Sa_bindAll_89 rfl (lv_at hl 4 rfl) ?_
        refine lv_dup2_11 hx hb d_Sa_bindAll_90 rfl rfl ?_
        refine b_iald (i := st) hm hw 3 0 rfl rfl (by omega) (by omega) d_Sa_bindAll_91 ?_
        refine b_ti (show (fun j => nI (MP j)) st = nI (MP st) from rfl) ?_
        refine lv_iload hx hb d_Sa_bindAll_92 (lv_at hl 0 rfl) ?_
        refine b_goi (wr := [(sa, .inr (5, [.ref rc, .int (nI n), .ref rb, .ref mr, .ref mpp, .ref af])), (rb, .inl (k 0, 512, .inl (fun j => nI (RB j)))), (mr, .inl (k 0, 512, .inl (fun j => nI (MR j)))), (mpp, .inl (k 0, 512, .inl (fun j => nI (MP j)))), (ho, .inr (1, [.ref ma, .int (nI cn), .ref fa]))]) (b_runS (wc := []) (As := [.int (nI (dg st i))]) (rest := [.int (nI (MP st)), .int (nI st), .ref mpp]) hm hw (va_cwS 1 hts (gS2 uw_of k_417 k_415 k_416 k_4) rfl rfl rfl (by decide +kernel) ⟨by decide, by decide⟩) (c_Mc_isBound l D k _ (dg st i) hdl) [] (by decide) rfl rfl hl.1 rfl (Nat.le_of_ble_eq_true rfl) d_Sa_bindAll_94 ⟨by decide, by decide⟩) hw [] [0, 1, 2, 3, 4] rfl rfl (by decide) (by decide) (fun r94 _ H locs hp94 hw => ?_)
        have hw : bW (gU D k) A s H locs [(sa, .inr (5, [.ref rc, .int (nI n), .ref rb, .ref mr, .ref mpp, .ref af])), (rb, .inl (k 0, 512, .inl (fun j => nI (RB j)))), (mr, .inl (k 0, 512, .inl (fun j => nI (MR j)))), (mpp, .inl (k 0, 512, .inl (fun j => nI (MP j)))), (ho, .inr (1, [.ref ma, .int (nI cn), .ref fa]))] := hw.sub [0, 1, 2, 3, 4] (by decide) rfl
        refine lv_if_eq (tgt := 106) hx hb d_Sa_bindAll_97 (by decide) (fun c_97_2 => ?_) (fun c_97_2 => ?_)
        · skip
          refine lv_iconst (v := nI 0) hx hb d_Sa_bindAll_106 (by decide) ?_
          refine lv_ior hx hb d_Sa_bindAll_107 ?_
          refine b_ti (nI_or (MP st) 0) ?_
          refine b_iast (i := st) hm hw 3 0 rfl rfl (by omega) (by omega) d_Sa_bindAll_108 (w1 := [(sa, .inr (5, [.ref rc, .int (nI n), .ref rb, .ref mr, .ref mpp, .ref af])), (rb, .inl (k 0, 512, .inl (fun j => nI (RB j)))), (mr, .inl (k 0, 512, .inl (fun j => nI (MR j)))), (mpp, .inl (k 0, 512, .inl (fun j => nI ((va_up MP st ((MP st) ||| 0)) j)))), (ho, .inr (1, [.ref ma, .int (nI cn), .ref fa]))]) (by rw [updN]; rfl) (fun H locs hw => ?_)
          refine lv_iinc (v := nI (i + 1)) (lv' := [(3, .int (nI (i + 1))), (4, .int (nI (dg st i))), (0, .ref sa), (1, .ref ho), (2, .int (nI st))]) hx hb d_Sa_bindAll_109 hl (k := 1) rfl (nI_add i 1) (by decide) rfl (fun ls hl => ?_)
          refine lv_goto (tgt := 23) hx hb d_Sa_bindAll_112 (by decide) ?_
          exact ih (i + 1) _ _ _ (by omega) (by omega) (by unfold bdI at hI ⊢; simp only [va_up_self, rbA, mrA, mpA, va_up]; grind) H locs ls hw (lv_sub hl [0, 2, 3, 4] rfl)
        · skip
          have hp2 := p3 (show i < 3 by omega)
          refine lv_iconst (v := nI 1) hx hb d_Sa_bindAll_100 (by decide) ?_
          refine lv_iload_n hx hb d_Sa_bindAll_101 rfl (lv_at hl 1 rfl) ?_
          refine lv_ishl hx hb d_Sa_bindAll_102 ?_
          refine b_ti (nI_shl (a := 1) (b := i) (by omega) (by omega)) ?_
          refine b_ti (y := nI (2 ^ i)) (by rw [Nat.one_mul]) ?_
          refine lv_goto (tgt := 107) hx hb d_Sa_bindAll_103 (by decide) ?_
          refine lv_ior hx hb d_Sa_bindAll_107 ?_
          refine b_ti (nI_or (MP st) (2 ^ i)) ?_
          refine b_iast (i := st) hm hw 3 0 rfl rfl (by omega) (by omega) d_Sa_bindAll_108 (w1 := [(sa, .inr (5, [.ref rc, .int (nI n), .ref rb, .ref mr, .ref mpp, .ref af])), (rb, .inl (k 0, 512, .inl (fun j => nI (RB j)))), (mr, .inl (k 0, 512, .inl (fun j => nI (MR j)))), (mpp, .inl (k 0, 512, .inl (fun j => nI ((va_up MP st ((MP st) ||| (2 ^ i))) j)))), (ho, .inr (1, [.ref ma, .int (nI cn), .ref fa]))]) (by rw [updN]; rfl) (fun H locs hw => ?_)
          refine lv_iinc (v := nI (i + 1)) (lv' := [(3, .int (nI (i + 1))), (4, .int (nI (dg st i))), (0, .ref sa), (1, .ref ho), (2, .int (nI st))]) hx hb d_Sa_bindAll_109 hl (k := 1) rfl (nI_add i 1) (by decide) rfl (fun ls hl => ?_)
          refine lv_goto (tgt := 23) hx hb d_Sa_bindAll_112 (by decide) ?_
          exact ih (i + 1) _ _ _ (by omega) (by omega) (by unfold bdI at hI ⊢; simp only [va_up_self, rbA, mrA, mpA, va_up]; grind) H locs ls hw (lv_sub hl [0, 2, 3, 4] rfl)
      · skip
        refine lv_aload_n hx hb d_Sa_bindAll_46 rfl (lv_at hl 2 rfl) ?_
        refine b_get (T := F_Sa) hm hw 0 rfl rfl (fun w h => uw_of w (u_Sa w h)) 2 (by decide) (uw_of _ k_124) rfl d_Sa_bindAll_47 ?_
        refine lv_iload_n hx hb d_Sa_bindAll_50 rfl (lv_at hl 4 rfl) ?_
        refine lv_dup2_11 hx hb d_Sa_bindAll_51 rfl rfl ?_
        refine b_iald (i := st) hm hw 1 0 rfl rfl (by omega) (by omega) d_Sa_bindAll_52 ?_
        refine b_ti (show (fun j => nI (RB j)) st = nI (RB st) from rfl) ?_
        have hp2 := p3 (show i < 3 by omega)
        refine lv_iconst (v := nI 1) hx hb d_Sa_bindAll_53 (by decide) ?_
        refine lv_iload_n hx hb d_Sa_bindAll_54 rfl (lv_at hl 1 rfl) ?_
        refine lv_ishl hx hb d_Sa_bindAll_55 ?_
        refine b_ti (nI_shl (a := 1) (b := i) (by omega) (by omega)) ?_
        refine b_ti (y := nI (2 ^ i)) (by rw [Nat.one_mul]) ?_
        refine lv_ior hx hb d_Sa_bindAll_56 ?_
        refine b_ti (nI_or (RB st) (2 ^ i)) ?_
        refine b_iast (i := st) hm hw 1 0 rfl rfl (by omega) (by omega) d_Sa_bindAll_57 (w1 := [(sa, .inr (5, [.ref rc, .int (nI n), .ref rb, .ref mr, .ref mpp, .ref af])), (rb, .inl (k 0, 512, .inl (fun j => nI ((va_up RB st ((RB st) ||| (2 ^ i))) j)))), (mr, .inl (k 0, 512, .inl (fun j => nI (MR j)))), (mpp, .inl (k 0, 512, .inl (fun j => nI (MP j)))), (ho, .inr (1, [.ref ma, .int (nI cn), .ref fa]))]) (by rw [updN]; rfl) (fun H locs hw => ?_)
        refine lv_aload_n hx hb d_Sa_bindAll_58 rfl (lv_at hl 2 rfl) ?_
        refine b_get (T := F_Sa) hm hw 0 rfl rfl (fun w h => uw_of w (u_Sa w h)) 3 (by decide) (uw_of _ k_126) rfl d_Sa_bindAll_59 ?_
        refine lv_iload_n hx hb d_Sa_bindAll_62 rfl (lv_at hl 4 rfl) ?_
        refine lv_dup2_11 hx hb d_Sa_bindAll_63 rfl rfl ?_
        refine b_iald (i := st) hm hw 2 0 rfl rfl (by omega) (by omega) d_Sa_bindAll_64 ?_
        refine b_ti (show (fun j => nI (MR j)) st = nI (MR st) from rfl) ?_
        refine lv_iload hx hb d_Sa_bindAll_65 (lv_at hl 0 rfl) ?_
        refine b_goi (wr := [(sa, .inr (5, [.ref rc, .int (nI n), .ref rb, .ref mr, .ref mpp, .ref af])), (rb, .inl (k 0, 512, .inl (fun j => nI ((va_up RB st ((RB st) ||| (2 ^ i))) j)))), (mr, .inl (k 0, 512, .inl (fun j => nI (MR j)))), (mpp, .inl (k 0, 512, .inl (fun j => nI (MP j)))), (ho, .inr (1, [.ref ma, .int (nI cn), .ref fa]))]) (b_runS (wc := []) (As := [.int (nI (dg st i))]) (rest := [.int (nI (MR st)), .int (nI st), .ref mr]) hm hw (va_cwS 1 hts (gS2 uw_of k_417 k_415 k_416 k_4) rfl rfl rfl (by decide +kernel) ⟨by decide, by decide⟩) (c_Mc_isBound l D k _ (dg st i) hdl) [] (by decide) rfl rfl hl.1 rfl (Nat.le_of_ble_eq_true rfl) d_Sa_bindAll_67 ⟨by decide, by decide⟩) hw [] [0, 1, 2, 3, 4] rfl rfl (by decide) (by decide) (fun r67 _ H locs hp67 hw => ?_)
        have hw : bW (gU D k) A s H locs [(sa, .inr (5, [.ref rc, .int (nI n), .ref rb, .ref mr, .ref mpp, .ref af])), (rb, .inl (k 0, 512, .inl (fun j => nI ((va_up RB st ((RB st) ||| (2 ^ i))) j)))), (mr, .inl (k 0, 512, .inl (fun j => nI (MR j)))), (mpp, .inl (k 0, 512, .inl (fun j => nI (MP j)))), (ho, .inr (1, [.ref ma, .int (nI cn), .ref fa]))] := hw.sub [0, 1, 2, 3, 4] (by decide) rfl
        refine lv_if_eq (tgt := 79) hx hb d_Sa_bindAll_70 (by decide) (fun c_70_3 => ?_) (fun c_70_3 => ?_)
        · skip
          refine lv_iconst (v := nI 0) hx hb d_Sa_bindAll_79 (by decide) ?_
          refine lv_ior hx hb d_Sa_bindAll_80 ?_
          refine b_ti (nI_or (MR st) 0) ?_
          refine b_iast (i := st) hm hw 2 0 rfl rfl (by omega) (by omega) d_Sa_bindAll_81 (w1 := [(sa, .inr (5, [.ref rc, .int (nI n), .ref rb, .ref mr, .ref mpp, .ref af])), (rb, .inl (k 0, 512, .inl (fun j => nI ((va_up RB st ((RB st) ||| (2 ^ i))) j)))), (mr, .inl (k 0, 512, .inl (fun j => nI ((va_up MR st ((MR st) ||| 0)) j)))), (mpp, .inl (k 0, 512, .inl (fun j => nI (MP j)))), (ho, .inr (1, [.ref ma, .int (nI cn), .ref fa]))]) (by rw [updN]; rfl) (fun H locs hw => ?_)
          refine lv_goto (tgt := 109) hx hb d_Sa_bindAll_82 (by decide) ?_
          refine lv_iinc (v := nI (i + 1)) (lv' := [(3, .int (nI (i + 1))), (4, .int (nI (dg st i))), (0, .ref sa), (1, .ref ho), (2, .int (nI st))]) hx hb d_Sa_bindAll_109 hl (k := 1) rfl (nI_add i 1) (by decide) rfl (fun ls hl => ?_)
          refine lv_goto (tgt := 23) hx hb d_Sa_bindAll_112 (by decide) ?_
          exact ih (i + 1) _ _ _ (by omega) (by omega) (by unfold bdI at hI ⊢; simp only [va_up_self, rbA, mrA, mpA, va_up]; grind) H locs ls hw (lv_sub hl [0, 2, 3, 4] rfl)
        · skip
          have hp2 := p3 (show i < 3 by omega)
          refine lv_iconst (v := nI 1) hx hb d_Sa_bindAll_73 (by decide) ?_
          refine lv_iload_n hx hb d_Sa_bindAll_74 rfl (lv_at hl 1 rfl) ?_
          refine lv_ishl hx hb d_Sa_bindAll_75 ?_
          refine b_ti (nI_shl (a := 1) (b := i) (by omega) (by omega)) ?_
          refine b_ti (y := nI (2 ^ i)) (by rw [Nat.one_mul]) ?_
          refine lv_goto (tgt := 80) hx hb d_Sa_bindAll_76 (by decide) ?_
          refine lv_ior hx hb d_Sa_bindAll_80 ?_
          refine b_ti (nI_or (MR st) (2 ^ i)) ?_
          refine b_iast (i := st) hm hw 2 0 rfl rfl (by omega) (by omega) d_Sa_bindAll_81 (w1 := [(sa, .inr (5, [.ref rc, .int (nI n), .ref rb, .ref mr, .ref mpp, .ref af])), (rb, .inl (k 0, 512, .inl (fun j => nI ((va_up RB st ((RB st) ||| (2 ^ i))) j)))), (mr, .inl (k 0, 512, .inl (fun j => nI ((va_up MR st ((MR st) ||| (2 ^ i))) j)))), (mpp, .inl (k 0, 512, .inl (fun j => nI (MP j)))), (ho, .inr (1, [.ref ma, .int (nI cn), .ref fa]))]) (by rw [updN]; rfl) (fun H locs hw => ?_)
          refine lv_goto (tgt := 109) hx hb d_Sa_bindAll_82 (by decide) ?_
          refine lv_iinc (v := nI (i + 1)) (lv' := [(3, .int (nI (i + 1))), (4, .int (nI (dg st i))), (0, .ref sa), (1, .ref ho), (2, .int (nI st))]) hx hb d_Sa_bindAll_109 hl (k := 1) rfl (nI_add i 1) (by decide) rfl (fun ls hl => ?_)
          refine lv_goto (tgt := 23) hx hb d_Sa_bindAll_112 (by decide) ?_
          exact ih (i + 1) _ _ _ (by omega) (by omega) (by unfold bdI at hI ⊢; simp only [va_up_self, rbA, mrA, mpA, va_up]; grind) H locs ls hw (lv_sub hl [0, 2, 3, 4] rfl)

set_option maxHeartbeats 4000000 in
set_option maxRecDepth 100000 in
theorem c_Sa_bindAll (l : Launch) (D : va_G) (k : Nat → ClassId) (sz : Nat) (sa rc rb mr mpp af ho ma fa cn st n : Nat) (RB0 MR0 MP0 : Nat → Nat) (hc : cn ≤ 3) (hs : st < 512) : Met l y_Sa_bindAll (uw y_Sa_bindAll b_Sa_bindAll 5 none) (rU 1 0 0) (va_Pc [.ref sa, .ref ho, .int (nI st)] (bP (gU D k) [(sa, .inr (5, [.ref rc, .int (nI n), .ref rb, .ref mr, .ref mpp, .ref af])), (rb, .inl (k 0, 512, .inl (fun j => nI (RB0 j)))), (mr, .inl (k 0, 512, .inl (fun j => nI (MR0 j)))), (mpp, .inl (k 0, 512, .inl (fun j => nI (MP0 j)))), (ho, .inr (1, [.ref ma, .int (nI cn), .ref fa]))] sz)) (va_Qv (fun (u : (Nat → Nat) × (Nat → Nat) × (Nat → Nat)) => bdI st RB0 MR0 MP0 cn u.1 u.2.1 u.2.2) (fun u => bQ (gU D k) (va_A [(sa, .inr (5, [.ref rc, .int (nI n), .ref rb, .ref mr, .ref mpp, .ref af])), (rb, .inl (k 0, 512, .inl (fun j => nI (RB0 j)))), (mr, .inl (k 0, 512, .inl (fun j => nI (MR0 j)))), (mpp, .inl (k 0, 512, .inl (fun j => nI (MP0 j)))), (ho, .inr (1, [.ref ma, .int (nI cn), .ref fa]))] sz) ([(sa, .inr (5, [.ref rc, .int (nI n), .ref rb, .ref mr, .ref mpp, .ref af])), (rb, .inl (k 0, 512, .inl (fun j => nI (u.1 j)))), (mr, .inl (k 0, 512, .inl (fun j => nI (u.2.1 j)))), (mpp, .inl (k 0, 512, .inl (fun j => nI (u.2.2 j)))), (ho, .inr (1, [.ref ma, .int (nI cn), .ref fa]))])) (va_A [(sa, .inr (5, [.ref rc, .int (nI n), .ref rb, .ref mr, .ref mpp, .ref af])), (rb, .inl (k 0, 512, .inl (fun j => nI (RB0 j)))), (mr, .inl (k 0, 512, .inl (fun j => nI (MR0 j)))), (mpp, .inl (k 0, 512, .inl (fun j => nI (MP0 j)))), (ho, .inr (1, [.ref ma, .int (nI cn), .ref fa]))] sz)) (rU 1 0 0).cells (rU 1 0 0).slots (va_A [(sa, .inr (5, [.ref rc, .int (nI n), .ref rb, .ref mr, .ref mpp, .ref af])), (rb, .inl (k 0, 512, .inl (fun j => nI (RB0 j)))), (mr, .inl (k 0, 512, .inl (fun j => nI (MR0 j)))), (mpp, .inl (k 0, 512, .inl (fun j => nI (MP0 j)))), (ho, .inr (1, [.ref ma, .int (nI cn), .ref fa]))] sz) := by
  refine b_start (Qc := fun A => va_Qv (fun (u : (Nat → Nat) × (Nat → Nat) × (Nat → Nat)) => bdI st RB0 MR0 MP0 cn u.1 u.2.1 u.2.2) (fun u => bQ (gU D k) A ([(sa, .inr (5, [.ref rc, .int (nI n), .ref rb, .ref mr, .ref mpp, .ref af])), (rb, .inl (k 0, 512, .inl (fun j => nI (u.1 j)))), (mr, .inl (k 0, 512, .inl (fun j => nI (u.2.1 j)))), (mpp, .inl (k 0, 512, .inl (fun j => nI (u.2.2 j)))), (ho, .inr (1, [.ref ma, .int (nI cn), .ref fa]))])) A) (by decide +kernel) (Nat.le_of_ble_eq_true rfl) ?_
  intro p e s m below meth c A hm hnm hw ls hl
  have hl : lv_has ls 5 [(0, .ref sa), (1, .ref ho), (2, .int (nI st))] := hl
  have hx := hm.1
  have hb := hm.2.1
  have hown := hm.2.2.2.2.1
  have hts := hm.2.2.2.2.2.1
  refine lv_aload_n hx hb d_Sa_bindAll_0 rfl (lv_at hl 0 rfl) ?_
  refine b_get (T := F_Sa) hm hw 0 rfl rfl (fun w h => uw_of w (u_Sa w h)) 2 (by decide) (uw_of _ k_124) rfl d_Sa_bindAll_1 ?_
  refine lv_iload_n hx hb d_Sa_bindAll_4 rfl (lv_at hl 2 rfl) ?_
  refine lv_iconst (v := nI 0) hx hb d_Sa_bindAll_5 (by decide) ?_
  refine b_iast (i := st) hm hw 1 0 rfl rfl (by omega) (by omega) d_Sa_bindAll_6 (w1 := [(sa, .inr (5, [.ref rc, .int (nI n), .ref rb, .ref mr, .ref mpp, .ref af])), (rb, .inl (k 0, 512, .inl (fun j => nI ((va_up RB0 st 0) j)))), (mr, .inl (k 0, 512, .inl (fun j => nI (MR0 j)))), (mpp, .inl (k 0, 512, .inl (fun j => nI (MP0 j)))), (ho, .inr (1, [.ref ma, .int (nI cn), .ref fa]))]) (by rw [updN]; rfl) (fun H locs hw => ?_)
  refine lv_aload_n hx hb d_Sa_bindAll_7 rfl (lv_at hl 0 rfl) ?_
  refine b_get (T := F_Sa) hm hw 0 rfl rfl (fun w h => uw_of w (u_Sa w h)) 3 (by decide) (uw_of _ k_126) rfl d_Sa_bindAll_8 ?_
  refine lv_iload_n hx hb d_Sa_bindAll_11 rfl (lv_at hl 2 rfl) ?_
  refine lv_iconst (v := nI 0) hx hb d_Sa_bindAll_12 (by decide) ?_
  refine b_iast (i := st) hm hw 2 0 rfl rfl (by omega) (by omega) d_Sa_bindAll_13 (w1 := [(sa, .inr (5, [.ref rc, .int (nI n), .ref rb, .ref mr, .ref mpp, .ref af])), (rb, .inl (k 0, 512, .inl (fun j => nI ((va_up RB0 st 0) j)))), (mr, .inl (k 0, 512, .inl (fun j => nI ((va_up MR0 st 0) j)))), (mpp, .inl (k 0, 512, .inl (fun j => nI (MP0 j)))), (ho, .inr (1, [.ref ma, .int (nI cn), .ref fa]))]) (by rw [updN]; rfl) (fun H locs hw => ?_)
  refine lv_aload_n hx hb d_Sa_bindAll_14 rfl (lv_at hl 0 rfl) ?_
  refine b_get (T := F_Sa) hm hw 0 rfl rfl (fun w h => uw_of w (u_Sa w h)) 4 (by decide) (uw_of _ k_128) rfl d_Sa_bindAll_15 ?_
  refine lv_iload_n hx hb d_Sa_bindAll_18 rfl (lv_at hl 2 rfl) ?_
  refine lv_iconst (v := nI 0) hx hb d_Sa_bindAll_19 (by decide) ?_
  refine b_iast (i := st) hm hw 3 0 rfl rfl (by omega) (by omega) d_Sa_bindAll_20 (w1 := [(sa, .inr (5, [.ref rc, .int (nI n), .ref rb, .ref mr, .ref mpp, .ref af])), (rb, .inl (k 0, 512, .inl (fun j => nI ((va_up RB0 st 0) j)))), (mr, .inl (k 0, 512, .inl (fun j => nI ((va_up MR0 st 0) j)))), (mpp, .inl (k 0, 512, .inl (fun j => nI ((va_up MP0 st 0) j)))), (ho, .inr (1, [.ref ma, .int (nI cn), .ref fa]))]) (by rw [updN]; rfl) (fun H locs hw => ?_)
  refine lv_iconst (v := nI 0) hx hb d_Sa_bindAll_21 (by decide) ?_
  refine lv_istore_n (lv' := [(3, .int (nI 0)), (0, .ref sa), (1, .ref ho), (2, .int (nI st))]) hx hb d_Sa_bindAll_22 rfl hl (by decide) rfl (fun ls hl => ?_)
  exact lp_Sa_bindAll hc hs hm hnm (cn + 1) 0 _ _ _ (by omega) (by omega) (by unfold bdI; simp only [va_up, rbA, mrA, mpA]; grind) _ _ ls hw (lv_sub hl [0, 1, 2, 3] rfl)

def flI (lr lp : Nat → Nat) (cn st : Nat) (AF0 : Nat → Nat) (i : Nat) (AF : Nat → Nat) : Prop := (∀ x, x < i → AF (st * 8 + x) = nxA lr lp st x cn) ∧ ∀ j, (j < st * 8 ∨ st * 8 + i ≤ j) → AF j = AF0 j
theorem on_eq {set i : Nat} (h : (set / 2 ^ i) &&& 1 = 0) : on set i = false := by
  rw [and1] at h; unfold on; simp; omega
theorem on_ne {set i : Nat} (h : ¬ (set / 2 ^ i) &&& 1 = 0) : on set i = true := by
  rw [and1] at h; unfold on; simp; omega

set_option maxHeartbeats 4000000 in
set_option maxRecDepth 100000 in
theorem lp_Sa_followIn {l : Launch} {D : va_G} {k : Nat → ClassId} {sa rc rb mr mpp af ho ma fa cn st n m0 m1 m2 : Nat} {lr lp sc hq pq oq : Nat → Nat} {AF0 : Nat → Nat} (hc : cn ≤ 3) (hs : st < 512) (hlr : ∀ j, lr j ≤ 4 ∧ lp j ≤ 4) (hlp : ∀ j, j < cn → 1 ≤ lr j ∧ 1 ≤ lp j) {AF : Nat → Nat} {set : Nat} (hset : set < 8) {p : Program} {e : Env} {s : State} {m : MethodId} {below : List Frame} {meth : Method} {c : Code} {A : Nat → Prop} {Q : State → Prop} (hm : bM p s m (([.ref sa, .ref ho, .int (nI st)] : List Value).toArray) meth c "HeatMachines$States" b_Sa_followAll 8 none (uw y_Sa_followAll b_Sa_followAll 8 none)) (kx : ∀ (nx : Nat) (H : Heap) (locs : List Loc) (ls : Array Slot), nx = nxA lr lp st set cn → bW (gU D k) A s H locs [(sa, .inr (5, [.ref rc, .int (nI n), .ref rb, .ref mr, .ref mpp, .ref af])), (af, .inl (k 0, 4096, .inl (fun j => nI (AF j)))), (ho, .inr (1, [.ref ma, .int (nI cn), .ref fa])), (ma, .inl (k 3, 3, .inr (.inr (.inr (.inr (mAd m0 m1 m2)))))), (m0, .inr (3, [.int (nI (lr 0)), .int (nI (lp 0)), .int (nI (sc 0)), .ref (hq 0), .ref (pq 0), .ref (oq 0)])), (m1, .inr (3, [.int (nI (lr 1)), .int (nI (lp 1)), .int (nI (sc 1)), .ref (hq 1), .ref (pq 1), .ref (oq 1)])), (m2, .inr (3, [.int (nI (lr 2)), .int (nI (lp 2)), .int (nI (sc 2)), .ref (hq 2), .ref (pq 2), .ref (oq 2)]))] → lv_has ls 8 [(4, .int (nI nx)), (3, .int (nI set)), (0, .ref sa), (1, .ref ho), (2, .int (nI st))] → W p l e (rU 2 0 0) s m (([.ref sa, .ref ho, .int (nI st)] : List Value).toArray) below meth c H locs 0 0 Q (F0 m 81 ls [])) :
    ∀ (f : Nat) (i nx : Nat), cn + 1 ≤ i + f → i ≤ cn → nx = nxA lr lp st set i → ∀ (H : Heap) (locs : List Loc) (ls : Array Slot), bW (gU D k) A s H locs [(sa, .inr (5, [.ref rc, .int (nI n), .ref rb, .ref mr, .ref mpp, .ref af])), (af, .inl (k 0, 4096, .inl (fun j => nI (AF j)))), (ho, .inr (1, [.ref ma, .int (nI cn), .ref fa])), (ma, .inl (k 3, 3, .inr (.inr (.inr (.inr (mAd m0 m1 m2)))))), (m0, .inr (3, [.int (nI (lr 0)), .int (nI (lp 0)), .int (nI (sc 0)), .ref (hq 0), .ref (pq 0), .ref (oq 0)])), (m1, .inr (3, [.int (nI (lr 1)), .int (nI (lp 1)), .int (nI (sc 1)), .ref (hq 1), .ref (pq 1), .ref (oq 1)])), (m2, .inr (3, [.int (nI (lr 2)), .int (nI (lp 2)), .int (nI (sc 2)), .ref (hq 2), .ref (pq 2), .ref (oq 2)]))] → lv_has ls 8 [(5, .int (nI i)), (4, .int (nI nx)), (3, .int (nI set)), (0, .ref sa), (1, .ref ho), (2, .int (nI st))] → W p l e (rU 2 0 0) s m (([.ref sa, .ref ho, .int (nI st)] : List Value).toArray) below meth c H locs 0 0 Q (F0 m 18 ls []) := by
  have hx := hm.1
  have hb := hm.2.1
  have hown := hm.2.2.2.2.1
  have hts := hm.2.2.2.2.2.1
  intro f
  induction f with
  | zero => intro i nx hf hi hnx; exfalso; omega
  | succ f ih =>
    intro i nx hf hi hnx H locs ls hw hl
    refine lv_iload hx hb d_Sa_followAll_18 (lv_at hl 0 rfl) ?_
    refine lv_aload_n hx hb d_Sa_followAll_20 rfl (lv_at hl 4 rfl) ?_
    refine b_getN (T := F_Ho) hm hw 2 rfl rfl (fun w h => uw_of w (u_Ho w h)) 1 (by decide) (k_102) rfl d_Sa_followAll_21 ?_
    refine lv_icmp_ge (tgt := 81) hx hb d_Sa_followAll_24 (by decide) (fun c_24_0 => ?_) (fun c_24_0 => ?_)
    · skip
      have h_24_0 : cn ≤ i := yge c_24_0 (by omega) (by omega)
      exact kx nx H locs ls (by rw [hnx, show i = cn by omega]) hw (lv_sub hl [1, 2, 3, 4, 5] rfl)
    · skip
      have h_24_0 : i < cn := yltN c_24_0 (by omega) (by omega)
      have hpi := p3 (show i < 3 by omega)
      refine lv_iload_n hx hb d_Sa_followAll_27 rfl (lv_at hl 2 rfl) ?_
      refine lv_iload hx hb d_Sa_followAll_28 (lv_at hl 0 rfl) ?_
      refine lv_ishr hx hb d_Sa_followAll_30 ?_
      refine b_ti (nI_shr (a := set) (b := i) (by omega) (by omega)) ?_
      have hpi := p3 (show i < 3 by omega)
      refine lv_iconst (v := nI 1) hx hb d_Sa_followAll_31 (by decide) ?_
      refine lv_iand hx hb d_Sa_followAll_32 ?_
      refine b_ti (nI_and (set / 2 ^ i) 1) ?_
      have hb1 : (set / 2 ^ i) &&& 1 < 2 := by rw [and1]; omega
      refine lv_if_eq (tgt := 40) hx hb d_Sa_followAll_33 (by decide) (fun c_33_1 => ?_) (fun c_33_1 => ?_)
      · skip
        have h_33_1 : ((set / 2 ^ i) &&& 1) = 0 := yeq0 c_33_1 (by omega) (by omega)
        refine lv_iconst (v := nI 0) hx hb d_Sa_followAll_40 (by decide) ?_
        refine lv_istore (lv' := [(6, .int (nI 0)), (5, .int (nI i)), (4, .int (nI nx)), (3, .int (nI set)), (0, .ref sa), (1, .ref ho), (2, .int (nI st))]) hx hb d_Sa_followAll_41  hl (by decide) rfl (fun ls hl => ?_)
        refine lv_aload_n hx hb d_Sa_followAll_43 rfl (lv_at hl 5 rfl) ?_
        refine b_getN (T := F_Ho) hm hw 2 rfl rfl (fun w h => uw_of w (u_Ho w h)) 0 (by decide) (k_97) rfl d_Sa_followAll_44 ?_
        refine lv_iload hx hb d_Sa_followAll_47 (lv_at hl 1 rfl) ?_
        rcases (show i = 0 ∨ i = 1 ∨ i = 2 by omega) with hi0 | hi0 | hi0
        · skip
          refine b_aald (i := i) (v := m0) hm hw 3 3 rfl rfl rfl (by omega) (by omega) (by rw [hi0]; rfl) d_Sa_followAll_49 ?_
          refine lv_iload_n hx hb d_Sa_followAll_50 rfl (lv_at hl 6 rfl) ?_
          refine lv_iload hx hb d_Sa_followAll_51 (lv_at hl 1 rfl) ?_
          refine b_goi (wr := [(sa, .inr (5, [.ref rc, .int (nI n), .ref rb, .ref mr, .ref mpp, .ref af])), (af, .inl (k 0, 4096, .inl (fun j => nI (AF j)))), (ho, .inr (1, [.ref ma, .int (nI cn), .ref fa])), (ma, .inl (k 3, 3, .inr (.inr (.inr (.inr (mAd m0 m1 m2)))))), (m0, .inr (3, [.int (nI (lr 0)), .int (nI (lp 0)), .int (nI (sc 0)), .ref (hq 0), .ref (pq 0), .ref (oq 0)])), (m1, .inr (3, [.int (nI (lr 1)), .int (nI (lp 1)), .int (nI (sc 1)), .ref (hq 1), .ref (pq 1), .ref (oq 1)])), (m2, .inr (3, [.int (nI (lr 2)), .int (nI (lp 2)), .int (nI (sc 2)), .ref (hq 2), .ref (pq 2), .ref (oq 2)]))]) (b_runS (wc := []) (As := [.int (nI st), .int (nI i)]) (rest := [.ref m0]) hm hw (va_cwS 2 hts (gS2 uw_of k_413 k_411 k_412 k_7) rfl rfl rfl (by decide +kernel) ⟨by decide, by decide⟩) (c_Sa_digitOf l D k _ st i (by omega) (by omega)) [] (by decide) rfl rfl hl.1 rfl (Nat.le_of_ble_eq_true rfl) d_Sa_followAll_53 ⟨by decide, by decide⟩) hw [] [0, 1, 2, 3, 4, 5, 6] rfl rfl (by decide) (by decide) (fun r53 _ H locs hp53 hw => ?_)
          have hw : bW (gU D k) A s H locs [(sa, .inr (5, [.ref rc, .int (nI n), .ref rb, .ref mr, .ref mpp, .ref af])), (af, .inl (k 0, 4096, .inl (fun j => nI (AF j)))), (ho, .inr (1, [.ref ma, .int (nI cn), .ref fa])), (ma, .inl (k 3, 3, .inr (.inr (.inr (.inr (mAd m0 m1 m2)))))), (m0, .inr (3, [.int (nI (lr 0)), .int (nI (lp 0)), .int (nI (sc 0)), .ref (hq 0), .ref (pq 0), .ref (oq 0)])), (m1, .inr (3, [.int (nI (lr 1)), .int (nI (lp 1)), .int (nI (sc 1)), .ref (hq 1), .ref (pq 1), .ref (oq 1)])), (m2, .inr (3, [.int (nI (lr 2)), .int (nI (lp 2)), .int (nI (sc 2)), .ref (hq 2), .ref (pq 2), .ref (oq 2)]))] := hw.sub [0, 1, 2, 3, 4, 5, 6] (by decide) rfl
          refine b_ti hp53 ?_
          have hdl := dg_lt st i
          refine lv_iload hx hb d_Sa_followAll_56 (lv_at hl 0 rfl) ?_
          have hl1 := hlr 0
          have hl2 := hlp 0 (by omega)
          refine b_goi (wr := [(sa, .inr (5, [.ref rc, .int (nI n), .ref rb, .ref mr, .ref mpp, .ref af])), (af, .inl (k 0, 4096, .inl (fun j => nI (AF j)))), (ho, .inr (1, [.ref ma, .int (nI cn), .ref fa])), (ma, .inl (k 3, 3, .inr (.inr (.inr (.inr (mAd m0 m1 m2)))))), (m1, .inr (3, [.int (nI (lr 1)), .int (nI (lp 1)), .int (nI (sc 1)), .ref (hq 1), .ref (pq 1), .ref (oq 1)])), (m2, .inr (3, [.int (nI (lr 2)), .int (nI (lp 2)), .int (nI (sc 2)), .ref (hq 2), .ref (pq 2), .ref (oq 2)]))]) (b_runV (wc := [(m0, .inr (3, [.int (nI (lr 0)), .int (nI (lp 0)), .int (nI (sc 0)), .ref (hq 0), .ref (pq 0), .ref (oq 0)]))]) (As := [.int (nI (dg st i)), .int (if false then 1 else 0)]) (rest := []) (q0 := 4) hm hw (cwV 2 hts (gV uw_of k_425 k_422 k_423 (k_424) k_4) rfl rfl rfl (by decide +kernel) ⟨by decide, by decide⟩) (c_Mc_digitAfter l D k _ m0 (lr 0) (lp 0) (hq 0) (pq 0) (oq 0) (nI (sc 0)) (dg st i) false hdl hl1.1 hl1.2 hl2.1 hl2.2) [4] (by decide) rfl rfl rfl rfl hl.1 rfl (Nat.le_of_ble_eq_true rfl) d_Sa_followAll_58 ⟨by decide, by decide⟩) hw [4] [0, 1, 2, 3, 5, 6] rfl rfl (by decide) (by decide) (fun r58 _ H locs hp58 hw => ?_)
          have hw : bW (gU D k) A s H locs [(sa, .inr (5, [.ref rc, .int (nI n), .ref rb, .ref mr, .ref mpp, .ref af])), (af, .inl (k 0, 4096, .inl (fun j => nI (AF j)))), (ho, .inr (1, [.ref ma, .int (nI cn), .ref fa])), (ma, .inl (k 3, 3, .inr (.inr (.inr (.inr (mAd m0 m1 m2)))))), (m0, .inr (3, [.int (nI (lr 0)), .int (nI (lp 0)), .int (nI (sc 0)), .ref (hq 0), .ref (pq 0), .ref (oq 0)])), (m1, .inr (3, [.int (nI (lr 1)), .int (nI (lp 1)), .int (nI (sc 1)), .ref (hq 1), .ref (pq 1), .ref (oq 1)])), (m2, .inr (3, [.int (nI (lr 2)), .int (nI (lp 2)), .int (nI (sc 2)), .ref (hq 2), .ref (pq 2), .ref (oq 2)]))] := hw.sub [0, 1, 2, 3, 6, 4, 5] (by decide) rfl
          have hon : on set i = false := by first | exact on_eq (by assumption) | exact on_ne (by assumption)
          have hdd : dgAfter (lr i) (lp i) (dg st i) (on set i) < 8 := dgAfter_lt hdl (hlr i).1 (hlr i).2
          refine b_ti (show r58 = nI (dgAfter (lr i) (lp i) (dg st i) (on set i)) by rw [hp58, hon, hi0]) ?_
          refine lv_istore (lv' := [(7, .int (nI (dgAfter (lr i) (lp i) (dg st i) (on set i)))), (6, .int (nI 0)), (5, .int (nI i)), (4, .int (nI nx)), (3, .int (nI set)), (0, .ref sa), (1, .ref ho), (2, .int (nI st))]) hx hb d_Sa_followAll_61  hl (by decide) rfl (fun ls hl => ?_)
          refine lv_iload hx hb d_Sa_followAll_63 (lv_at hl 3 rfl) ?_
          have hp8 := p83 (show i < 3 by omega)
          refine lv_iload hx hb d_Sa_followAll_65 (lv_at hl 0 rfl) ?_
          refine lv_iconst (v := nI 3) hx hb d_Sa_followAll_67 (by decide) ?_
          refine lv_iload hx hb d_Sa_followAll_68 (lv_at hl 2 rfl) ?_
          refine lv_imul hx hb d_Sa_followAll_70 ?_
          refine b_ti (pk_mul 3 i) ?_
          refine lv_ishl hx hb d_Sa_followAll_71 ?_
          refine b_ti (nI_shl (a := dgAfter (lr i) (lp i) (dg st i) (on set i)) (b := 3 * i) (by omega) (by rcases hp8 with h | h | h <;> rw [h] <;> omega)) ?_
          refine lv_ior hx hb d_Sa_followAll_72 ?_
          refine b_ti (nI_or nx ((dgAfter (lr i) (lp i) (dg st i) (on set i)) * 2 ^ (3 * i))) ?_
          refine b_ti (y := nI (nx + dgAfter (lr i) (lp i) (dg st i) (on set i) * 2 ^ (3 * i))) (congrArg nI (or_add (by rw [hnx, Nat.pow_mul]; exact nxA_lt hlr st set i))) ?_
          refine lv_istore (lv' := [(4, .int (nI (nx + dgAfter (lr i) (lp i) (dg st i) (on set i) * 2 ^ (3 * i)))), (7, .int (nI (dgAfter (lr i) (lp i) (dg st i) (on set i)))), (6, .int (nI 0)), (5, .int (nI i)), (3, .int (nI set)), (0, .ref sa), (1, .ref ho), (2, .int (nI st))]) hx hb d_Sa_followAll_73  hl (by decide) rfl (fun ls hl => ?_)
          refine lv_iinc (v := nI (i + 1)) (lv' := [(5, .int (nI (i + 1))), (4, .int (nI (nx + dgAfter (lr i) (lp i) (dg st i) (on set i) * 2 ^ (3 * i)))), (7, .int (nI (dgAfter (lr i) (lp i) (dg st i) (on set i)))), (6, .int (nI 0)), (3, .int (nI set)), (0, .ref sa), (1, .ref ho), (2, .int (nI st))]) hx hb d_Sa_followAll_75 hl (k := 3) rfl (nI_add i 1) (by decide) rfl (fun ls hl => ?_)
          refine lv_goto (tgt := 18) hx hb d_Sa_followAll_78 (by decide) ?_
          exact ih (i + 1) _ (by omega) (by omega) (by rw [hnx, Nat.pow_mul]; rfl) H locs ls hw (lv_sub hl [0, 1, 4, 5, 6, 7] rfl)
        · skip
          refine b_aald (i := i) (v := m1) hm hw 3 3 rfl rfl rfl (by omega) (by omega) (by rw [hi0]; rfl) d_Sa_followAll_49 ?_
          refine lv_iload_n hx hb d_Sa_followAll_50 rfl (lv_at hl 6 rfl) ?_
          refine lv_iload hx hb d_Sa_followAll_51 (lv_at hl 1 rfl) ?_
          refine b_goi (wr := [(sa, .inr (5, [.ref rc, .int (nI n), .ref rb, .ref mr, .ref mpp, .ref af])), (af, .inl (k 0, 4096, .inl (fun j => nI (AF j)))), (ho, .inr (1, [.ref ma, .int (nI cn), .ref fa])), (ma, .inl (k 3, 3, .inr (.inr (.inr (.inr (mAd m0 m1 m2)))))), (m0, .inr (3, [.int (nI (lr 0)), .int (nI (lp 0)), .int (nI (sc 0)), .ref (hq 0), .ref (pq 0), .ref (oq 0)])), (m1, .inr (3, [.int (nI (lr 1)), .int (nI (lp 1)), .int (nI (sc 1)), .ref (hq 1), .ref (pq 1), .ref (oq 1)])), (m2, .inr (3, [.int (nI (lr 2)), .int (nI (lp 2)), .int (nI (sc 2)), .ref (hq 2), .ref (pq 2), .ref (oq 2)]))]) (b_runS (wc := []) (As := [.int (nI st), .int (nI i)]) (rest := [.ref m1]) hm hw (va_cwS 2 hts (gS2 uw_of k_413 k_411 k_412 k_7) rfl rfl rfl (by decide +kernel) ⟨by decide, by decide⟩) (c_Sa_digitOf l D k _ st i (by omega) (by omega)) [] (by decide) rfl rfl hl.1 rfl (Nat.le_of_ble_eq_true rfl) d_Sa_followAll_53 ⟨by decide, by decide⟩) hw [] [0, 1, 2, 3, 4, 5, 6] rfl rfl (by decide) (by decide) (fun r53 _ H locs hp53 hw => ?_)
          have hw : bW (gU D k) A s H locs [(sa, .inr (5, [.ref rc, .int (nI n), .ref rb, .ref mr, .ref mpp, .ref af])), (af, .inl (k 0, 4096, .inl (fun j => nI (AF j)))), (ho, .inr (1, [.ref ma, .int (nI cn), .ref fa])), (ma, .inl (k 3, 3, .inr (.inr (.inr (.inr (mAd m0 m1 m2)))))), (m0, .inr (3, [.int (nI (lr 0)), .int (nI (lp 0)), .int (nI (sc 0)), .ref (hq 0), .ref (pq 0), .ref (oq 0)])), (m1, .inr (3, [.int (nI (lr 1)), .int (nI (lp 1)), .int (nI (sc 1)), .ref (hq 1), .ref (pq 1), .ref (oq 1)])), (m2, .inr (3, [.int (nI (lr 2)), .int (nI (lp 2)), .int (nI (sc 2)), .ref (hq 2), .ref (pq 2), .ref (oq 2)]))] := hw.sub [0, 1, 2, 3, 4, 5, 6] (by decide) rfl
          refine b_ti hp53 ?_
          have hdl := dg_lt st i
          refine lv_iload hx hb d_Sa_followAll_56 (lv_at hl 0 rfl) ?_
          have hl1 := hlr 1
          have hl2 := hlp 1 (by omega)
          refine b_goi (wr := [(sa, .inr (5, [.ref rc, .int (nI n), .ref rb, .ref mr, .ref mpp, .ref af])), (af, .inl (k 0, 4096, .inl (fun j => nI (AF j)))), (ho, .inr (1, [.ref ma, .int (nI cn), .ref fa])), (ma, .inl (k 3, 3, .inr (.inr (.inr (.inr (mAd m0 m1 m2)))))), (m0, .inr (3, [.int (nI (lr 0)), .int (nI (lp 0)), .int (nI (sc 0)), .ref (hq 0), .ref (pq 0), .ref (oq 0)])), (m2, .inr (3, [.int (nI (lr 2)), .int (nI (lp 2)), .int (nI (sc 2)), .ref (hq 2), .ref (pq 2), .ref (oq 2)]))]) (b_runV (wc := [(m1, .inr (3, [.int (nI (lr 1)), .int (nI (lp 1)), .int (nI (sc 1)), .ref (hq 1), .ref (pq 1), .ref (oq 1)]))]) (As := [.int (nI (dg st i)), .int (if false then 1 else 0)]) (rest := []) (q0 := 5) hm hw (cwV 2 hts (gV uw_of k_425 k_422 k_423 (k_424) k_4) rfl rfl rfl (by decide +kernel) ⟨by decide, by decide⟩) (c_Mc_digitAfter l D k _ m1 (lr 1) (lp 1) (hq 1) (pq 1) (oq 1) (nI (sc 1)) (dg st i) false hdl hl1.1 hl1.2 hl2.1 hl2.2) [5] (by decide) rfl rfl rfl rfl hl.1 rfl (Nat.le_of_ble_eq_true rfl) d_Sa_followAll_58 ⟨by decide, by decide⟩) hw [5] [0, 1, 2, 3, 4, 6] rfl rfl (by decide) (by decide) (fun r58 _ H locs hp58 hw => ?_)
          have hw : bW (gU D k) A s H locs [(sa, .inr (5, [.ref rc, .int (nI n), .ref rb, .ref mr, .ref mpp, .ref af])), (af, .inl (k 0, 4096, .inl (fun j => nI (AF j)))), (ho, .inr (1, [.ref ma, .int (nI cn), .ref fa])), (ma, .inl (k 3, 3, .inr (.inr (.inr (.inr (mAd m0 m1 m2)))))), (m0, .inr (3, [.int (nI (lr 0)), .int (nI (lp 0)), .int (nI (sc 0)), .ref (hq 0), .ref (pq 0), .ref (oq 0)])), (m1, .inr (3, [.int (nI (lr 1)), .int (nI (lp 1)), .int (nI (sc 1)), .ref (hq 1), .ref (pq 1), .ref (oq 1)])), (m2, .inr (3, [.int (nI (lr 2)), .int (nI (lp 2)), .int (nI (sc 2)), .ref (hq 2), .ref (pq 2), .ref (oq 2)]))] := hw.sub [0, 1, 2, 3, 4, 6, 5] (by decide) rfl
          have hon : on set i = false := by first | exact on_eq (by assumption) | exact on_ne (by assumption)
          have hdd : dgAfter (lr i) (lp i) (dg st i) (on set i) < 8 := dgAfter_lt hdl (hlr i).1 (hlr i).2
          refine b_ti (show r58 = nI (dgAfter (lr i) (lp i) (dg st i) (on set i)) by rw [hp58, hon, hi0]) ?_
          refine lv_istore (lv' := [(7, .int (nI (dgAfter (lr i) (lp i) (dg st i) (on set i)))), (6, .int (nI 0)), (5, .int (nI i)), (4, .int (nI nx)), (3, .int (nI set)), (0, .ref sa), (1, .ref ho), (2, .int (nI st))]) hx hb d_Sa_followAll_61  hl (by decide) rfl (fun ls hl => ?_)
          refine lv_iload hx hb d_Sa_followAll_63 (lv_at hl 3 rfl) ?_
          have hp8 := p83 (show i < 3 by omega)
          refine lv_iload hx hb d_Sa_followAll_65 (lv_at hl 0 rfl) ?_
          refine lv_iconst (v := nI 3) hx hb d_Sa_followAll_67 (by decide) ?_
          refine lv_iload hx hb d_Sa_followAll_68 (lv_at hl 2 rfl) ?_
          refine lv_imul hx hb d_Sa_followAll_70 ?_
          refine b_ti (pk_mul 3 i) ?_
          refine lv_ishl hx hb d_Sa_followAll_71 ?_
          refine b_ti (nI_shl (a := dgAfter (lr i) (lp i) (dg st i) (on set i)) (b := 3 * i) (by omega) (by rcases hp8 with h | h | h <;> rw [h] <;> omega)) ?_
          refine lv_ior hx hb d_Sa_followAll_72 ?_
          refine b_ti (nI_or nx ((dgAfter (lr i) (lp i) (dg st i) (on set i)) * 2 ^ (3 * i))) ?_
          refine b_ti (y := nI (nx + dgAfter (lr i) (lp i) (dg st i) (on set i) * 2 ^ (3 * i))) (congrArg nI (or_add (by rw [hnx, Nat.pow_mul]; exact nxA_lt hlr st set i))) ?_
          refine lv_istore (lv' := [(4, .int (nI (nx + dgAfter (lr i) (lp i) (dg st i) (on set i) * 2 ^ (3 * i)))), (7, .int (nI (dgAfter (lr i) (lp i) (dg st i) (on set i)))), (6, .int (nI 0)), (5, .int (nI i)), (3, .int (nI set)), (0, .ref sa), (1, .ref ho), (2, .int (nI st))]) hx hb d_Sa_followAll_73  hl (by decide) rfl (fun ls hl => ?_)
          refine lv_iinc (v := nI (i + 1)) (lv' := [(5, .int (nI (i + 1))), (4, .int (nI (nx + dgAfter (lr i) (lp i) (dg st i) (on set i) * 2 ^ (3 * i)))), (7, .int (nI (dgAfter (lr i) (lp i) (dg st i) (on set i)))), (6, .int (nI 0)), (3, .int (nI set)), (0, .ref sa), (1, .ref ho), (2, .int (nI st))]) hx hb d_Sa_followAll_75 hl (k := 3) rfl (nI_add i 1) (by decide) rfl (fun ls hl => ?_)
          refine lv_goto (tgt := 18) hx hb d_Sa_followAll_78 (by decide) ?_
          exact ih (i + 1) _ (by omega) (by omega) (by rw [hnx, Nat.pow_mul]; rfl) H locs ls hw (lv_sub hl [0, 1, 4, 5, 6, 7] rfl)
        · skip
          refine b_aald (i := i) (v := m2) hm hw 3 3 rfl rfl rfl (by omega) (by omega) (by rw [hi0]; rfl) d_Sa_followAll_49 ?_
          refine lv_iload_n hx hb d_Sa_followAll_50 rfl (lv_at hl 6 rfl) ?_
          refine lv_iload hx hb d_Sa_followAll_51 (lv_at hl 1 rfl) ?_
          refine b_goi (wr := [(sa, .inr (5, [.ref rc, .int (nI n), .ref rb, .ref mr, .ref mpp, .ref af])), (af, .inl (k 0, 4096, .inl (fun j => nI (AF j)))), (ho, .inr (1, [.ref ma, .int (nI cn), .ref fa])), (ma, .inl (k 3, 3, .inr (.inr (.inr (.inr (mAd m0 m1 m2)))))), (m0, .inr (3, [.int (nI (lr 0)), .int (nI (lp 0)), .int (nI (sc 0)), .ref (hq 0), .ref (pq 0), .ref (oq 0)])), (m1, .inr (3, [.int (nI (lr 1)), .int (nI (lp 1)), .int (nI (sc 1)), .ref (hq 1), .ref (pq 1), .ref (oq 1)])), (m2, .inr (3, [.int (nI (lr 2)), .int (nI (lp 2)), .int (nI (sc 2)), .ref (hq 2), .ref (pq 2), .ref (oq 2)]))]) (b_runS (wc := []) (As := [.int (nI st), .int (nI i)]) (rest := [.ref m2]) hm hw (va_cwS 2 hts (gS2 uw_of k_413 k_411 k_412 k_7) rfl rfl rfl (by decide +kernel) ⟨by decide, by decide⟩) (c_Sa_digitOf l D k _ st i (by omega) (by omega)) [] (by decide) rfl rfl hl.1 rfl (Nat.le_of_ble_eq_true rfl) d_Sa_followAll_53 ⟨by decide, by decide⟩) hw [] [0, 1, 2, 3, 4, 5, 6] rfl rfl (by decide) (by decide) (fun r53 _ H locs hp53 hw => ?_)
          have hw : bW (gU D k) A s H locs [(sa, .inr (5, [.ref rc, .int (nI n), .ref rb, .ref mr, .ref mpp, .ref af])), (af, .inl (k 0, 4096, .inl (fun j => nI (AF j)))), (ho, .inr (1, [.ref ma, .int (nI cn), .ref fa])), (ma, .inl (k 3, 3, .inr (.inr (.inr (.inr (mAd m0 m1 m2)))))), (m0, .inr (3, [.int (nI (lr 0)), .int (nI (lp 0)), .int (nI (sc 0)), .ref (hq 0), .ref (pq 0), .ref (oq 0)])), (m1, .inr (3, [.int (nI (lr 1)), .int (nI (lp 1)), .int (nI (sc 1)), .ref (hq 1), .ref (pq 1), .ref (oq 1)])), (m2, .inr (3, [.int (nI (lr 2)), .int (nI (lp 2)), .int (nI (sc 2)), .ref (hq 2), .ref (pq 2), .ref (oq 2)]))] := hw.sub [0, 1, 2, 3, 4, 5, 6] (by decide) rfl
          refine b_ti hp53 ?_
          have hdl := dg_lt st i
          refine lv_iload hx hb d_Sa_followAll_56 (lv_at hl 0 rfl) ?_
          have hl1 := hlr 2
          have hl2 := hlp 2 (by omega)
          refine b_goi (wr := [(sa, .inr (5, [.ref rc, .int (nI n), .ref rb, .ref mr, .ref mpp, .ref af])), (af, .inl (k 0, 4096, .inl (fun j => nI (AF j)))), (ho, .inr (1, [.ref ma, .int (nI cn), .ref fa])), (ma, .inl (k 3, 3, .inr (.inr (.inr (.inr (mAd m0 m1 m2)))))), (m0, .inr (3, [.int (nI (lr 0)), .int (nI (lp 0)), .int (nI (sc 0)), .ref (hq 0), .ref (pq 0), .ref (oq 0)])), (m1, .inr (3, [.int (nI (lr 1)), .int (nI (lp 1)), .int (nI (sc 1)), .ref (hq 1), .ref (pq 1), .ref (oq 1)]))]) (b_runV (wc := [(m2, .inr (3, [.int (nI (lr 2)), .int (nI (lp 2)), .int (nI (sc 2)), .ref (hq 2), .ref (pq 2), .ref (oq 2)]))]) (As := [.int (nI (dg st i)), .int (if false then 1 else 0)]) (rest := []) (q0 := 6) hm hw (cwV 2 hts (gV uw_of k_425 k_422 k_423 (k_424) k_4) rfl rfl rfl (by decide +kernel) ⟨by decide, by decide⟩) (c_Mc_digitAfter l D k _ m2 (lr 2) (lp 2) (hq 2) (pq 2) (oq 2) (nI (sc 2)) (dg st i) false hdl hl1.1 hl1.2 hl2.1 hl2.2) [6] (by decide) rfl rfl rfl rfl hl.1 rfl (Nat.le_of_ble_eq_true rfl) d_Sa_followAll_58 ⟨by decide, by decide⟩) hw [6] [0, 1, 2, 3, 4, 5] rfl rfl (by decide) (by decide) (fun r58 _ H locs hp58 hw => ?_)
          have hw : bW (gU D k) A s H locs [(sa, .inr (5, [.ref rc, .int (nI n), .ref rb, .ref mr, .ref mpp, .ref af])), (af, .inl (k 0, 4096, .inl (fun j => nI (AF j)))), (ho, .inr (1, [.ref ma, .int (nI cn), .ref fa])), (ma, .inl (k 3, 3, .inr (.inr (.inr (.inr (mAd m0 m1 m2)))))), (m0, .inr (3, [.int (nI (lr 0)), .int (nI (lp 0)), .int (nI (sc 0)), .ref (hq 0), .ref (pq 0), .ref (oq 0)])), (m1, .inr (3, [.int (nI (lr 1)), .int (nI (lp 1)), .int (nI (sc 1)), .ref (hq 1), .ref (pq 1), .ref (oq 1)])), (m2, .inr (3, [.int (nI (lr 2)), .int (nI (lp 2)), .int (nI (sc 2)), .ref (hq 2), .ref (pq 2), .ref (oq 2)]))] := hw.sub [0, 1, 2, 3, 4, 5, 6] (by decide) rfl
          have hon : on set i = false := by first | exact on_eq (by assumption) | exact on_ne (by assumption)
          have hdd : dgAfter (lr i) (lp i) (dg st i) (on set i) < 8 := dgAfter_lt hdl (hlr i).1 (hlr i).2
          refine b_ti (show r58 = nI (dgAfter (lr i) (lp i) (dg st i) (on set i)) by rw [hp58, hon, hi0]) ?_
          refine lv_istore (lv' := [(7, .int (nI (dgAfter (lr i) (lp i) (dg st i) (on set i)))), (6, .int (nI 0)), (5, .int (nI i)), (4, .int (nI nx)), (3, .int (nI set)), (0, .ref sa), (1, .ref ho), (2, .int (nI st))]) hx hb d_Sa_followAll_61  hl (by decide) rfl (fun ls hl => ?_)
          refine lv_iload hx hb d_Sa_followAll_63 (lv_at hl 3 rfl) ?_
          have hp8 := p83 (show i < 3 by omega)
          refine lv_iload hx hb d_Sa_followAll_65 (lv_at hl 0 rfl) ?_
          refine lv_iconst (v := nI 3) hx hb d_Sa_followAll_67 (by decide) ?_
          refine lv_iload hx hb d_Sa_followAll_68 (lv_at hl 2 rfl) ?_
          refine lv_imul hx hb d_Sa_followAll_70 ?_
          refine b_ti (pk_mul 3 i) ?_
          refine lv_ishl hx hb d_Sa_followAll_71 ?_
          refine b_ti (nI_shl (a := dgAfter (lr i) (lp i) (dg st i) (on set i)) (b := 3 * i) (by omega) (by rcases hp8 with h | h | h <;> rw [h] <;> omega)) ?_
          refine lv_ior hx hb d_Sa_followAll_72 ?_
          refine b_ti (nI_or nx ((dgAfter (lr i) (lp i) (dg st i) (on set i)) * 2 ^ (3 * i))) ?_
          refine b_ti (y := nI (nx + dgAfter (lr i) (lp i) (dg st i) (on set i) * 2 ^ (3 * i))) (congrArg nI (or_add (by rw [hnx, Nat.pow_mul]; exact nxA_lt hlr st set i))) ?_
          refine lv_istore (lv' := [(4, .int (nI (nx + dgAfter (lr i) (lp i) (dg st i) (on set i) * 2 ^ (3 * i)))), (7, .int (nI (dgAfter (lr i) (lp i) (dg st i) (on set i)))), (6, .int (nI 0)), (5, .int (nI i)), (3, .int (nI set)), (0, .ref sa), (1, .ref ho), (2, .int (nI st))]) hx hb d_Sa_followAll_73  hl (by decide) rfl (fun ls hl => ?_)
          refine lv_iinc (v := nI (i + 1)) (lv' := [(5, .int (nI (i + 1))), (4, .int (nI (nx + dgAfter (lr i) (lp i) (dg st i) (on set i) * 2 ^ (3 * i)))), (7, .int (nI (dgAfter (lr i) (lp i) (dg st i) (on set i)))), (6, .int (nI 0)), (3, .int (nI set)), (0, .ref sa), (1, .ref ho), (2, .int (nI st))]) hx hb d_Sa_followAll_75 hl (k := 3) rfl (nI_add i 1) (by decide) rfl (fun ls hl => ?_)
          refine lv_goto (tgt := 18) hx hb d_Sa_followAll_78 (by decide) ?_
          exact ih (i + 1) _ (by omega) (by omega) (by rw [hnx, Nat.pow_mul]; rfl) H locs ls hw (lv_sub hl [0, 1, 4, 5, 6, 7] rfl)
      · skip
        have h_33_1 : ((set / 2 ^ i) &&& 1) ≠ 0 := yneN0 c_33_1 (by omega) (by omega)
        refine lv_iconst (v := nI 1) hx hb d_Sa_followAll_36 (by decide) ?_
        refine lv_goto (tgt := 41) hx hb d_Sa_followAll_37 (by decide) ?_
        refine lv_istore (lv' := [(6, .int (nI 1)), (5, .int (nI i)), (4, .int (nI nx)), (3, .int (nI set)), (0, .ref sa), (1, .ref ho), (2, .int (nI st))]) hx hb d_Sa_followAll_41  hl (by decide) rfl (fun ls hl => ?_)
        refine lv_aload_n hx hb d_Sa_followAll_43 rfl (lv_at hl 5 rfl) ?_
        refine b_getN (T := F_Ho) hm hw 2 rfl rfl (fun w h => uw_of w (u_Ho w h)) 0 (by decide) (k_97) rfl d_Sa_followAll_44 ?_
        refine lv_iload hx hb d_Sa_followAll_47 (lv_at hl 1 rfl) ?_
        rcases (show i = 0 ∨ i = 1 ∨ i = 2 by omega) with hi0 | hi0 | hi0
        · skip
          refine b_aald (i := i) (v := m0) hm hw 3 3 rfl rfl rfl (by omega) (by omega) (by rw [hi0]; rfl) d_Sa_followAll_49 ?_
          refine lv_iload_n hx hb d_Sa_followAll_50 rfl (lv_at hl 6 rfl) ?_
          refine lv_iload hx hb d_Sa_followAll_51 (lv_at hl 1 rfl) ?_
          refine b_goi (wr := [(sa, .inr (5, [.ref rc, .int (nI n), .ref rb, .ref mr, .ref mpp, .ref af])), (af, .inl (k 0, 4096, .inl (fun j => nI (AF j)))), (ho, .inr (1, [.ref ma, .int (nI cn), .ref fa])), (ma, .inl (k 3, 3, .inr (.inr (.inr (.inr (mAd m0 m1 m2)))))), (m0, .inr (3, [.int (nI (lr 0)), .int (nI (lp 0)), .int (nI (sc 0)), .ref (hq 0), .ref (pq 0), .ref (oq 0)])), (m1, .inr (3, [.int (nI (lr 1)), .int (nI (lp 1)), .int (nI (sc 1)), .ref (hq 1), .ref (pq 1), .ref (oq 1)])), (m2, .inr (3, [.int (nI (lr 2)), .int (nI (lp 2)), .int (nI (sc 2)), .ref (hq 2), .ref (pq 2), .ref (oq 2)]))]) (b_runS (wc := []) (As := [.int (nI st), .int (nI i)]) (rest := [.ref m0]) hm hw (va_cwS 2 hts (gS2 uw_of k_413 k_411 k_412 k_7) rfl rfl rfl (by decide +kernel) ⟨by decide, by decide⟩) (c_Sa_digitOf l D k _ st i (by omega) (by omega)) [] (by decide) rfl rfl hl.1 rfl (Nat.le_of_ble_eq_true rfl) d_Sa_followAll_53 ⟨by decide, by decide⟩) hw [] [0, 1, 2, 3, 4, 5, 6] rfl rfl (by decide) (by decide) (fun r53 _ H locs hp53 hw => ?_)
          have hw : bW (gU D k) A s H locs [(sa, .inr (5, [.ref rc, .int (nI n), .ref rb, .ref mr, .ref mpp, .ref af])), (af, .inl (k 0, 4096, .inl (fun j => nI (AF j)))), (ho, .inr (1, [.ref ma, .int (nI cn), .ref fa])), (ma, .inl (k 3, 3, .inr (.inr (.inr (.inr (mAd m0 m1 m2)))))), (m0, .inr (3, [.int (nI (lr 0)), .int (nI (lp 0)), .int (nI (sc 0)), .ref (hq 0), .ref (pq 0), .ref (oq 0)])), (m1, .inr (3, [.int (nI (lr 1)), .int (nI (lp 1)), .int (nI (sc 1)), .ref (hq 1), .ref (pq 1), .ref (oq 1)])), (m2, .inr (3, [.int (nI (lr 2)), .int (nI (lp 2)), .int (nI (sc 2)), .ref (hq 2), .ref (pq 2), .ref (oq 2)]))] := hw.sub [0, 1, 2, 3, 4, 5, 6] (by decide) rfl
          refine b_ti hp53 ?_
          have hdl := dg_lt st i
          refine lv_iload hx hb d_Sa_followAll_56 (lv_at hl 0 rfl) ?_
          have hl1 := hlr 0
          have hl2 := hlp 0 (by omega)
          refine b_goi (wr := [(sa, .inr (5, [.ref rc, .int (nI n), .ref rb, .ref mr, .ref mpp, .ref af])), (af, .inl (k 0, 4096, .inl (fun j => nI (AF j)))), (ho, .inr (1, [.ref ma, .int (nI cn), .ref fa])), (ma, .inl (k 3, 3, .inr (.inr (.inr (.inr (mAd m0 m1 m2)))))), (m1, .inr (3, [.int (nI (lr 1)), .int (nI (lp 1)), .int (nI (sc 1)), .ref (hq 1), .ref (pq 1), .ref (oq 1)])), (m2, .inr (3, [.int (nI (lr 2)), .int (nI (lp 2)), .int (nI (sc 2)), .ref (hq 2), .ref (pq 2), .ref (oq 2)]))]) (b_runV (wc := [(m0, .inr (3, [.int (nI (lr 0)), .int (nI (lp 0)), .int (nI (sc 0)), .ref (hq 0), .ref (pq 0), .ref (oq 0)]))]) (As := [.int (nI (dg st i)), .int (if true then 1 else 0)]) (rest := []) (q0 := 4) hm hw (cwV 2 hts (gV uw_of k_425 k_422 k_423 (k_424) k_4) rfl rfl rfl (by decide +kernel) ⟨by decide, by decide⟩) (c_Mc_digitAfter l D k _ m0 (lr 0) (lp 0) (hq 0) (pq 0) (oq 0) (nI (sc 0)) (dg st i) true hdl hl1.1 hl1.2 hl2.1 hl2.2) [4] (by decide) rfl rfl rfl rfl hl.1 rfl (Nat.le_of_ble_eq_true rfl) d_Sa_followAll_58 ⟨by decide, by decide⟩) hw [4] [0, 1, 2, 3, 5, 6] rfl rfl (by decide) (by decide) (fun r58 _ H locs hp58 hw => ?_)
          have hw : bW (gU D k) A s H locs [(sa, .inr (5, [.ref rc, .int (nI n), .ref rb, .ref mr, .ref mpp, .ref af])), (af, .inl (k 0, 4096, .inl (fun j => nI (AF j)))), (ho, .inr (1, [.ref ma, .int (nI cn), .ref fa])), (ma, .inl (k 3, 3, .inr (.inr (.inr (.inr (mAd m0 m1 m2)))))), (m0, .inr (3, [.int (nI (lr 0)), .int (nI (lp 0)), .int (nI (sc 0)), .ref (hq 0), .ref (pq 0), .ref (oq 0)])), (m1, .inr (3, [.int (nI (lr 1)), .int (nI (lp 1)), .int (nI (sc 1)), .ref (hq 1), .ref (pq 1), .ref (oq 1)])), (m2, .inr (3, [.int (nI (lr 2)), .int (nI (lp 2)), .int (nI (sc 2)), .ref (hq 2), .ref (pq 2), .ref (oq 2)]))] := hw.sub [0, 1, 2, 3, 6, 4, 5] (by decide) rfl
          have hon : on set i = true := by first | exact on_eq (by assumption) | exact on_ne (by assumption)
          have hdd : dgAfter (lr i) (lp i) (dg st i) (on set i) < 8 := dgAfter_lt hdl (hlr i).1 (hlr i).2
          refine b_ti (show r58 = nI (dgAfter (lr i) (lp i) (dg st i) (on set i)) by rw [hp58, hon, hi0]) ?_
          refine lv_istore (lv' := [(7, .int (nI (dgAfter (lr i) (lp i) (dg st i) (on set i)))), (6, .int (nI 1)), (5, .int (nI i)), (4, .int (nI nx)), (3, .int (nI set)), (0, .ref sa), (1, .ref ho), (2, .int (nI st))]) hx hb d_Sa_followAll_61  hl (by decide) rfl (fun ls hl => ?_)
          refine lv_iload hx hb d_Sa_followAll_63 (lv_at hl 3 rfl) ?_
          have hp8 := p83 (show i < 3 by omega)
          refine lv_iload hx hb d_Sa_followAll_65 (lv_at hl 0 rfl) ?_
          refine lv_iconst (v := nI 3) hx hb d_Sa_followAll_67 (by decide) ?_
          refine lv_iload hx hb d_Sa_followAll_68 (lv_at hl 2 rfl) ?_
          refine lv_imul hx hb d_Sa_followAll_70 ?_
          refine b_ti (pk_mul 3 i) ?_
          refine lv_ishl hx hb d_Sa_followAll_71 ?_
          refine b_ti (nI_shl (a := dgAfter (lr i) (lp i) (dg st i) (on set i)) (b := 3 * i) (by omega) (by rcases hp8 with h | h | h <;> rw [h] <;> omega)) ?_
          refine lv_ior hx hb d_Sa_followAll_72 ?_
          refine b_ti (nI_or nx ((dgAfter (lr i) (lp i) (dg st i) (on set i)) * 2 ^ (3 * i))) ?_
          refine b_ti (y := nI (nx + dgAfter (lr i) (lp i) (dg st i) (on set i) * 2 ^ (3 * i))) (congrArg nI (or_add (by rw [hnx, Nat.pow_mul]; exact nxA_lt hlr st set i))) ?_
          refine lv_istore (lv' := [(4, .int (nI (nx + dgAfter (lr i) (lp i) (dg st i) (on set i) * 2 ^ (3 * i)))), (7, .int (nI (dgAfter (lr i) (lp i) (dg st i) (on set i)))), (6, .int (nI 1)), (5, .int (nI i)), (3, .int (nI set)), (0, .ref sa), (1, .ref ho), (2, .int (nI st))]) hx hb d_Sa_followAll_73  hl (by decide) rfl (fun ls hl => ?_)
          refine lv_iinc (v := nI (i + 1)) (lv' := [(5, .int (nI (i + 1))), (4, .int (nI (nx + dgAfter (lr i) (lp i) (dg st i) (on set i) * 2 ^ (3 * i)))), (7, .int (nI (dgAfter (lr i) (lp i) (dg st i) (on set i)))), (6, .int (nI 1)), (3, .int (nI set)), (0, .ref sa), (1, .ref ho), (2, .int (nI st))]) hx hb d_Sa_followAll_75 hl (k := 3) rfl (nI_add i 1) (by decide) rfl (fun ls hl => ?_)
          refine lv_goto (tgt := 18) hx hb d_Sa_followAll_78 (by decide) ?_
          exact ih (i + 1) _ (by omega) (by omega) (by rw [hnx, Nat.pow_mul]; rfl) H locs ls hw (lv_sub hl [0, 1, 4, 5, 6, 7] rfl)
        · skip
          refine b_aald (i := i) (v := m1) hm hw 3 3 rfl rfl rfl (by omega) (by omega) (by rw [hi0]; rfl) d_Sa_followAll_49 ?_
          refine lv_iload_n hx hb d_Sa_followAll_50 rfl (lv_at hl 6 rfl) ?_
          refine lv_iload hx hb d_Sa_followAll_51 (lv_at hl 1 rfl) ?_
          refine b_goi (wr := [(sa, .inr (5, [.ref rc, .int (nI n), .ref rb, .ref mr, .ref mpp, .ref af])), (af, .inl (k 0, 4096, .inl (fun j => nI (AF j)))), (ho, .inr (1, [.ref ma, .int (nI cn), .ref fa])), (ma, .inl (k 3, 3, .inr (.inr (.inr (.inr (mAd m0 m1 m2)))))), (m0, .inr (3, [.int (nI (lr 0)), .int (nI (lp 0)), .int (nI (sc 0)), .ref (hq 0), .ref (pq 0), .ref (oq 0)])), (m1, .inr (3, [.int (nI (lr 1)), .int (nI (lp 1)), .int (nI (sc 1)), .ref (hq 1), .ref (pq 1), .ref (oq 1)])), (m2, .inr (3, [.int (nI (lr 2)), .int (nI (lp 2)), .int (nI (sc 2)), .ref (hq 2), .ref (pq 2), .ref (oq 2)]))]) (b_runS (wc := []) (As := [.int (nI st), .int (nI i)]) (rest := [.ref m1]) hm hw (va_cwS 2 hts (gS2 uw_of k_413 k_411 k_412 k_7) rfl rfl rfl (by decide +kernel) ⟨by decide, by decide⟩) (c_Sa_digitOf l D k _ st i (by omega) (by omega)) [] (by decide) rfl rfl hl.1 rfl (Nat.le_of_ble_eq_true rfl) d_Sa_followAll_53 ⟨by decide, by decide⟩) hw [] [0, 1, 2, 3, 4, 5, 6] rfl rfl (by decide) (by decide) (fun r53 _ H locs hp53 hw => ?_)
          have hw : bW (gU D k) A s H locs [(sa, .inr (5, [.ref rc, .int (nI n), .ref rb, .ref mr, .ref mpp, .ref af])), (af, .inl (k 0, 4096, .inl (fun j => nI (AF j)))), (ho, .inr (1, [.ref ma, .int (nI cn), .ref fa])), (ma, .inl (k 3, 3, .inr (.inr (.inr (.inr (mAd m0 m1 m2)))))), (m0, .inr (3, [.int (nI (lr 0)), .int (nI (lp 0)), .int (nI (sc 0)), .ref (hq 0), .ref (pq 0), .ref (oq 0)])), (m1, .inr (3, [.int (nI (lr 1)), .int (nI (lp 1)), .int (nI (sc 1)), .ref (hq 1), .ref (pq 1), .ref (oq 1)])), (m2, .inr (3, [.int (nI (lr 2)), .int (nI (lp 2)), .int (nI (sc 2)), .ref (hq 2), .ref (pq 2), .ref (oq 2)]))] := hw.sub [0, 1, 2, 3, 4, 5, 6] (by decide) rfl
          refine b_ti hp53 ?_
          have hdl := dg_lt st i
          refine lv_iload hx hb d_Sa_followAll_56 (lv_at hl 0 rfl) ?_
          have hl1 := hlr 1
          have hl2 := hlp 1 (by omega)
          refine b_goi (wr := [(sa, .inr (5, [.ref rc, .int (nI n), .ref rb, .ref mr, .ref mpp, .ref af])), (af, .inl (k 0, 4096, .inl (fun j => nI (AF j)))), (ho, .inr (1, [.ref ma, .int (nI cn), .ref fa])), (ma, .inl (k 3, 3, .inr (.inr (.inr (.inr (mAd m0 m1 m2)))))), (m0, .inr (3, [.int (nI (lr 0)), .int (nI (lp 0)), .int (nI (sc 0)), .ref (hq 0), .ref (pq 0), .ref (oq 0)])), (m2, .inr (3, [.int (nI (lr 2)), .int (nI (lp 2)), .int (nI (sc 2)), .ref (hq 2), .ref (pq 2), .ref (oq 2)]))]) (b_runV (wc := [(m1, .inr (3, [.int (nI (lr 1)), .int (nI (lp 1)), .int (nI (sc 1)), .ref (hq 1), .ref (pq 1), .ref (oq 1)]))]) (As := [.int (nI (dg st i)), .int (if true then 1 else 0)]) (rest := []) (q0 := 5) hm hw (cwV 2 hts (gV uw_of k_425 k_422 k_423 (k_424) k_4) rfl rfl rfl (by decide +kernel) ⟨by decide, by decide⟩) (c_Mc_digitAfter l D k _ m1 (lr 1) (lp 1) (hq 1) (pq 1) (oq 1) (nI (sc 1)) (dg st i) true hdl hl1.1 hl1.2 hl2.1 hl2.2) [5] (by decide) rfl rfl rfl rfl hl.1 rfl (Nat.le_of_ble_eq_true rfl) d_Sa_followAll_58 ⟨by decide, by decide⟩) hw [5] [0, 1, 2, 3, 4, 6] rfl rfl (by decide) (by decide) (fun r58 _ H locs hp58 hw => ?_)
          have hw : bW (gU D k) A s H locs [(sa, .inr (5, [.ref rc, .int (nI n), .ref rb, .ref mr, .ref mpp, .ref af])), (af, .inl (k 0, 4096, .inl (fun j => nI (AF j)))), (ho, .inr (1, [.ref ma, .int (nI cn), .ref fa])), (ma, .inl (k 3, 3, .inr (.inr (.inr (.inr (mAd m0 m1 m2)))))), (m0, .inr (3, [.int (nI (lr 0)), .int (nI (lp 0)), .int (nI (sc 0)), .ref (hq 0), .ref (pq 0), .ref (oq 0)])), (m1, .inr (3, [.int (nI (lr 1)), .int (nI (lp 1)), .int (nI (sc 1)), .ref (hq 1), .ref (pq 1), .ref (oq 1)])), (m2, .inr (3, [.int (nI (lr 2)), .int (nI (lp 2)), .int (nI (sc 2)), .ref (hq 2), .ref (pq 2), .ref (oq 2)]))] := hw.sub [0, 1, 2, 3, 4, 6, 5] (by decide) rfl
          have hon : on set i = true := by first | exact on_eq (by assumption) | exact on_ne (by assumption)
          have hdd : dgAfter (lr i) (lp i) (dg st i) (on set i) < 8 := dgAfter_lt hdl (hlr i).1 (hlr i).2
          refine b_ti (show r58 = nI (dgAfter (lr i) (lp i) (dg st i) (on set i)) by rw [hp58, hon, hi0]) ?_
          refine lv_istore (lv' := [(7, .int (nI (dgAfter (lr i) (lp i) (dg st i) (on set i)))), (6, .int (nI 1)), (5, .int (nI i)), (4, .int (nI nx)), (3, .int (nI set)), (0, .ref sa), (1, .ref ho), (2, .int (nI st))]) hx hb d_Sa_followAll_61  hl (by decide) rfl (fun ls hl => ?_)
          refine lv_iload hx hb d_Sa_followAll_63 (lv_at hl 3 rfl) ?_
          have hp8 := p83 (show i < 3 by omega)
          refine lv_iload hx hb d_Sa_followAll_65 (lv_at hl 0 rfl) ?_
          refine lv_iconst (v := nI 3) hx hb d_Sa_followAll_67 (by decide) ?_
          refine lv_iload hx hb d_Sa_followAll_68 (lv_at hl 2 rfl) ?_
          refine lv_imul hx hb d_Sa_followAll_70 ?_
          refine b_ti (pk_mul 3 i) ?_
          refine lv_ishl hx hb d_Sa_followAll_71 ?_
          refine b_ti (nI_shl (a := dgAfter (lr i) (lp i) (dg st i) (on set i)) (b := 3 * i) (by omega) (by rcases hp8 with h | h | h <;> rw [h] <;> omega)) ?_
          refine lv_ior hx hb d_Sa_followAll_72 ?_
          refine b_ti (nI_or nx ((dgAfter (lr i) (lp i) (dg st i) (on set i)) * 2 ^ (3 * i))) ?_
          refine b_ti (y := nI (nx + dgAfter (lr i) (lp i) (dg st i) (on set i) * 2 ^ (3 * i))) (congrArg nI (or_add (by rw [hnx, Nat.pow_mul]; exact nxA_lt hlr st set i))) ?_
          refine lv_istore (lv' := [(4, .int (nI (nx + dgAfter (lr i) (lp i) (dg st i) (on set i) * 2 ^ (3 * i)))), (7, .int (nI (dgAfter (lr i) (lp i) (dg st i) (on set i)))), (6, .int (nI 1)), (5, .int (nI i)), (3, .int (nI set)), (0, .ref sa), (1, .ref ho), (2, .int (nI st))]) hx hb d_Sa_followAll_73  hl (by decide) rfl (fun ls hl => ?_)
          refine lv_iinc (v := nI (i + 1)) (lv' := [(5, .int (nI (i + 1))), (4, .int (nI (nx + dgAfter (lr i) (lp i) (dg st i) (on set i) * 2 ^ (3 * i)))), (7, .int (nI (dgAfter (lr i) (lp i) (dg st i) (on set i)))), (6, .int (nI 1)), (3, .int (nI set)), (0, .ref sa), (1, .ref ho), (2, .int (nI st))]) hx hb d_Sa_followAll_75 hl (k := 3) rfl (nI_add i 1) (by decide) rfl (fun ls hl => ?_)
          refine lv_goto (tgt := 18) hx hb d_Sa_followAll_78 (by decide) ?_
          exact ih (i + 1) _ (by omega) (by omega) (by rw [hnx, Nat.pow_mul]; rfl) H locs ls hw (lv_sub hl [0, 1, 4, 5, 6, 7] rfl)
        · skip
          refine b_aald (i := i) (v := m2) hm hw 3 3 rfl rfl rfl (by omega) (by omega) (by rw [hi0]; rfl) d_Sa_followAll_49 ?_
          refine lv_iload_n hx hb d_Sa_followAll_50 rfl (lv_at hl 6 rfl) ?_
          refine lv_iload hx hb d_Sa_followAll_51 (lv_at hl 1 rfl) ?_
          refine b_goi (wr := [(sa, .inr (5, [.ref rc, .int (nI n), .ref rb, .ref mr, .ref mpp, .ref af])), (af, .inl (k 0, 4096, .inl (fun j => nI (AF j)))), (ho, .inr (1, [.ref ma, .int (nI cn), .ref fa])), (ma, .inl (k 3, 3, .inr (.inr (.inr (.inr (mAd m0 m1 m2)))))), (m0, .inr (3, [.int (nI (lr 0)), .int (nI (lp 0)), .int (nI (sc 0)), .ref (hq 0), .ref (pq 0), .ref (oq 0)])), (m1, .inr (3, [.int (nI (lr 1)), .int (nI (lp 1)), .int (nI (sc 1)), .ref (hq 1), .ref (pq 1), .ref (oq 1)])), (m2, .inr (3, [.int (nI (lr 2)), .int (nI (lp 2)), .int (nI (sc 2)), .ref (hq 2), .ref (pq 2), .ref (oq 2)]))]) (b_runS (wc := []) (As := [.int (nI st), .int (nI i)]) (rest := [.ref m2]) hm hw (va_cwS 2 hts (gS2 uw_of k_413 k_411 k_412 k_7) rfl rfl rfl (by decide +kernel) ⟨by decide, by decide⟩) (c_Sa_digitOf l D k _ st i (by omega) (by omega)) [] (by decide) rfl rfl hl.1 rfl (Nat.le_of_ble_eq_true rfl) d_Sa_followAll_53 ⟨by decide, by decide⟩) hw [] [0, 1, 2, 3, 4, 5, 6] rfl rfl (by decide) (by decide) (fun r53 _ H locs hp53 hw => ?_)
          have hw : bW (gU D k) A s H locs [(sa, .inr (5, [.ref rc, .int (nI n), .ref rb, .ref mr, .ref mpp, .ref af])), (af, .inl (k 0, 4096, .inl (fun j => nI (AF j)))), (ho, .inr (1, [.ref ma, .int (nI cn), .ref fa])), (ma, .inl (k 3, 3, .inr (.inr (.inr (.inr (mAd m0 m1 m2)))))), (m0, .inr (3, [.int (nI (lr 0)), .int (nI (lp 0)), .int (nI (sc 0)), .ref (hq 0), .ref (pq 0), .ref (oq 0)])), (m1, .inr (3, [.int (nI (lr 1)), .int (nI (lp 1)), .int (nI (sc 1)), .ref (hq 1), .ref (pq 1), .ref (oq 1)])), (m2, .inr (3, [.int (nI (lr 2)), .int (nI (lp 2)), .int (nI (sc 2)), .ref (hq 2), .ref (pq 2), .ref (oq 2)]))] := hw.sub [0, 1, 2, 3, 4, 5, 6] (by decide) rfl
          refine b_ti hp53 ?_
          have hdl := dg_lt st i
          refine lv_iload hx hb d_Sa_followAll_56 (lv_at hl 0 rfl) ?_
          have hl1 := hlr 2
          have hl2 := hlp 2 (by omega)
          refine b_goi (wr := [(sa, .inr (5, [.ref rc, .int (nI n), .ref rb, .ref mr, .ref mpp, .ref af])), (af, .inl (k 0, 4096, .inl (fun j => nI (AF j)))), (ho, .inr (1, [.ref ma, .int (nI cn), .ref fa])), (ma, .inl (k 3, 3, .inr (.inr (.inr (.inr (mAd m0 m1 m2)))))), (m0, .inr (3, [.int (nI (lr 0)), .int (nI (lp 0)), .int (nI (sc 0)), .ref (hq 0), .ref (pq 0), .ref (oq 0)])), (m1, .inr (3, [.int (nI (lr 1)), .int (nI (lp 1)), .int (nI (sc 1)), .ref (hq 1), .ref (pq 1), .ref (oq 1)]))]) (b_runV (wc := [(m2, .inr (3, [.int (nI (lr 2)), .int (nI (lp 2)), .int (nI (sc 2)), .ref (hq 2), .ref (pq 2), .ref (oq 2)]))]) (As := [.int (nI (dg st i)), .int (if true then 1 else 0)]) (rest := []) (q0 := 6) hm hw (cwV 2 hts (gV uw_of k_425 k_422 k_423 (k_424) k_4) rfl rfl rfl (by decide +kernel) ⟨by decide, by decide⟩) (c_Mc_digitAfter l D k _ m2 (lr 2) (lp 2) (hq 2) (pq 2) (oq 2) (nI (sc 2)) (dg st i) true hdl hl1.1 hl1.2 hl2.1 hl2.2) [6] (by decide) rfl rfl rfl rfl hl.1 rfl (Nat.le_of_ble_eq_true rfl) d_Sa_followAll_58 ⟨by decide, by decide⟩) hw [6] [0, 1, 2, 3, 4, 5] rfl rfl (by decide) (by decide) (fun r58 _ H locs hp58 hw => ?_)
          have hw : bW (gU D k) A s H locs [(sa, .inr (5, [.ref rc, .int (nI n), .ref rb, .ref mr, .ref mpp, .ref af])), (af, .inl (k 0, 4096, .inl (fun j => nI (AF j)))), (ho, .inr (1, [.ref ma, .int (nI cn), .ref fa])), (ma, .inl (k 3, 3, .inr (.inr (.inr (.inr (mAd m0 m1 m2)))))), (m0, .inr (3, [.int (nI (lr 0)), .int (nI (lp 0)), .int (nI (sc 0)), .ref (hq 0), .ref (pq 0), .ref (oq 0)])), (m1, .inr (3, [.int (nI (lr 1)), .int (nI (lp 1)), .int (nI (sc 1)), .ref (hq 1), .ref (pq 1), .ref (oq 1)])), (m2, .inr (3, [.int (nI (lr 2)), .int (nI (lp 2)), .int (nI (sc 2)), .ref (hq 2), .ref (pq 2), .ref (oq 2)]))] := hw.sub [0, 1, 2, 3, 4, 5, 6] (by decide) rfl
          have hon : on set i = true := by first | exact on_eq (by assumption) | exact on_ne (by assumption)
          have hdd : dgAfter (lr i) (lp i) (dg st i) (on set i) < 8 := dgAfter_lt hdl (hlr i).1 (hlr i).2
          refine b_ti (show r58 = nI (dgAfter (lr i) (lp i) (dg st i) (on set i)) by rw [hp58, hon, hi0]) ?_
          refine lv_istore (lv' := [(7, .int (nI (dgAfter (lr i) (lp i) (dg st i) (on set i)))), (6, .int (nI 1)), (5, .int (nI i)), (4, .int (nI nx)), (3, .int (nI set)), (0, .ref sa), (1, .ref ho), (2, .int (nI st))]) hx hb d_Sa_followAll_61  hl (by decide) rfl (fun ls hl => ?_)
          refine lv_iload hx hb d_Sa_followAll_63 (lv_at hl 3 rfl) ?_
          have hp8 := p83 (show i < 3 by omega)
          refine lv_iload hx hb d_Sa_followAll_65 (lv_at hl 0 rfl) ?_
          refine lv_iconst (v := nI 3) hx hb d_Sa_followAll_67 (by decide) ?_
          refine lv_iload hx hb d_Sa_followAll_68 (lv_at hl 2 rfl) ?_
          refine lv_imul hx hb d_Sa_followAll_70 ?_
          refine b_ti (pk_mul 3 i) ?_
          refine lv_ishl hx hb d_Sa_followAll_71 ?_
          refine b_ti (nI_shl (a := dgAfter (lr i) (lp i) (dg st i) (on set i)) (b := 3 * i) (by omega) (by rcases hp8 with h | h | h <;> rw [h] <;> omega)) ?_
          refine lv_ior hx hb d_Sa_followAll_72 ?_
          refine b_ti (nI_or nx ((dgAfter (lr i) (lp i) (dg st i) (on set i)) * 2 ^ (3 * i))) ?_
          refine b_ti (y := nI (nx + dgAfter (lr i) (lp i) (dg st i) (on set i) * 2 ^ (3 * i))) (congrArg nI (or_add (by rw [hnx, Nat.pow_mul]; exact nxA_lt hlr st set i))) ?_
          refine lv_istore (lv' := [(4, .int (nI (nx + dgAfter (lr i) (lp i) (dg st i) (on set i) * 2 ^ (3 * i)))), (7, .int (nI (dgAfter (lr i) (lp i) (dg st i) (on set i)))), (6, .int (nI 1)), (5, .int (nI i)), (3, .int (nI set)), (0, .ref sa), (1, .ref ho), (2, .int (nI st))]) hx hb d_Sa_followAll_73  hl (by decide) rfl (fun ls hl => ?_)
          refine lv_iinc (v := nI (i + 1)) (lv' := [(5, .int (nI (i + 1))), (4, .int (nI (nx + dgAfter (lr i) (lp i) (dg st i) (on set i) * 2 ^ (3 * i)))), (7, .int (nI (dgAfter (lr i) (lp i) (dg st i) (on set i)))), (6, .int (nI 1)), (3, .int (nI set)), (0, .ref sa), (1, .ref ho), (2, .int (nI st))]) hx hb d_Sa_followAll_75 hl (k := 3) rfl (nI_add i 1) (by decide) rfl (fun ls hl => ?_)
          refine lv_goto (tgt := 18) hx hb d_Sa_followAll_78 (by decide) ?_
          exact ih (i + 1) _ (by omega) (by omega) (by rw [hnx, Nat.pow_mul]; rfl) H locs ls hw (lv_sub hl [0, 1, 4, 5, 6, 7] rfl)

set_option maxHeartbeats 4000000 in
set_option maxRecDepth 100000 in
theorem lp_Sa_followAll {l : Launch} {D : va_G} {k : Nat → ClassId} {sa rc rb mr mpp af ho ma fa cn st n m0 m1 m2 : Nat} {lr lp sc hq pq oq : Nat → Nat} {AF0 : Nat → Nat} (hc : cn ≤ 3) (hs : st < 512) (hlr : ∀ j, lr j ≤ 4 ∧ lp j ≤ 4) (hlp : ∀ j, j < cn → 1 ≤ lr j ∧ 1 ≤ lp j) {p : Program} {e : Env} {s : State} {m : MethodId} {below : List Frame} {meth : Method} {c : Code} {A : Nat → Prop} (hm : bM p s m (([.ref sa, .ref ho, .int (nI st)] : List Value).toArray) meth c "HeatMachines$States" b_Sa_followAll 8 none (uw y_Sa_followAll b_Sa_followAll 8 none)) (hnm : meth.name = "followAll") :
    ∀ (f : Nat) (set : Nat) (AF : Nat → Nat), 2 ^ cn + 1 ≤ set + f → set ≤ 2 ^ cn → flI lr lp cn st AF0 set AF → ∀ (H : Heap) (locs : List Loc) (ls : Array Slot), bW (gU D k) A s H locs [(sa, .inr (5, [.ref rc, .int (nI n), .ref rb, .ref mr, .ref mpp, .ref af])), (af, .inl (k 0, 4096, .inl (fun j => nI (AF j)))), (ho, .inr (1, [.ref ma, .int (nI cn), .ref fa])), (ma, .inl (k 3, 3, .inr (.inr (.inr (.inr (mAd m0 m1 m2)))))), (m0, .inr (3, [.int (nI (lr 0)), .int (nI (lp 0)), .int (nI (sc 0)), .ref (hq 0), .ref (pq 0), .ref (oq 0)])), (m1, .inr (3, [.int (nI (lr 1)), .int (nI (lp 1)), .int (nI (sc 1)), .ref (hq 1), .ref (pq 1), .ref (oq 1)])), (m2, .inr (3, [.int (nI (lr 2)), .int (nI (lp 2)), .int (nI (sc 2)), .ref (hq 2), .ref (pq 2), .ref (oq 2)]))] → lv_has ls 8 [(3, .int (nI set)), (0, .ref sa), (1, .ref ho), (2, .int (nI st))] → W p l e (rU 2 0 0) s m (([.ref sa, .ref ho, .int (nI st)] : List Value).toArray) below meth c H locs 0 0 (MQ below (va_Qv (fun (u : Nat → Nat) => flI lr lp cn st AF0 (2 ^ cn) u) (fun u => bQ (gU D k) A ([(sa, .inr (5, [.ref rc, .int (nI n), .ref rb, .ref mr, .ref mpp, .ref af])), (af, .inl (k 0, 4096, .inl (fun j => nI (u j)))), (ho, .inr (1, [.ref ma, .int (nI cn), .ref fa])), (ma, .inl (k 3, 3, .inr (.inr (.inr (.inr (mAd m0 m1 m2)))))), (m0, .inr (3, [.int (nI (lr 0)), .int (nI (lp 0)), .int (nI (sc 0)), .ref (hq 0), .ref (pq 0), .ref (oq 0)])), (m1, .inr (3, [.int (nI (lr 1)), .int (nI (lp 1)), .int (nI (sc 1)), .ref (hq 1), .ref (pq 1), .ref (oq 1)])), (m2, .inr (3, [.int (nI (lr 2)), .int (nI (lp 2)), .int (nI (sc 2)), .ref (hq 2), .ref (pq 2), .ref (oq 2)]))])) A) (([.ref sa, .ref ho, .int (nI st)] : List Value).toArray) s (rU 2 0 0).cells (rU 2 0 0).slots A) (F0 m 2 ls []) := by
  have hx := hm.1
  have hb := hm.2.1
  have hown := hm.2.2.2.2.1
  have hts := hm.2.2.2.2.2.1
  intro f
  induction f with
  | zero => intro set AF hf hi hI; exfalso; omega
  | succ f ih =>
    intro set AF hf hi hI H locs ls hw hl
    have hpc : 2 ^ cn = 1 ∨ 2 ^ cn = 2 ∨ 2 ^ cn = 4 ∨ 2 ^ cn = 8 := by rcases (show cn = 0 ∨ cn = 1 ∨ cn = 2 ∨ cn = 3 by omega) with h | h | h | h <;> subst h <;> simp
    refine lv_iload_n hx hb d_Sa_followAll_2 rfl (lv_at hl 0 rfl) ?_
    refine lv_iconst (v := nI 1) hx hb d_Sa_followAll_3 (by decide) ?_
    refine lv_aload_n hx hb d_Sa_followAll_4 rfl (lv_at hl 2 rfl) ?_
    refine b_getN (T := F_Ho) hm hw 2 rfl rfl (fun w h => uw_of w (u_Ho w h)) 1 (by decide) (k_102) rfl d_Sa_followAll_5 ?_
    refine lv_ishl hx hb d_Sa_followAll_8 ?_
    refine b_ti (nI_shl (a := 1) (b := cn) (by omega) (by omega)) ?_
    refine b_ti (y := nI (2 ^ cn)) (by rw [Nat.one_mul]) ?_
    refine lv_icmp_ge (tgt := 100) hx hb d_Sa_followAll_9 (by decide) (fun c_9_0 => ?_) (fun c_9_0 => ?_)
    · skip
      have h_9_0 : (2 ^ cn) ≤ set := yge c_9_0 (by omega) (by omega)
      exact b_vret (post := fun (u : Nat → Nat) => flI lr lp cn st AF0 (2 ^ cn) u) (w' := fun u => [(sa, .inr (5, [.ref rc, .int (nI n), .ref rb, .ref mr, .ref mpp, .ref af])), (af, .inl (k 0, 4096, .inl (fun j => nI (u j)))), (ho, .inr (1, [.ref ma, .int (nI cn), .ref fa])), (ma, .inl (k 3, 3, .inr (.inr (.inr (.inr (mAd m0 m1 m2)))))), (m0, .inr (3, [.int (nI (lr 0)), .int (nI (lp 0)), .int (nI (sc 0)), .ref (hq 0), .ref (pq 0), .ref (oq 0)])), (m1, .inr (3, [.int (nI (lr 1)), .int (nI (lp 1)), .int (nI (sc 1)), .ref (hq 1), .ref (pq 1), .ref (oq 1)])), (m2, .inr (3, [.int (nI (lr 2)), .int (nI (lp 2)), .int (nI (sc 2)), .ref (hq 2), .ref (pq 2), .ref (oq 2)]))]) AF hm hw (by have e : set = 2 ^ cn := (by omega); rw [← e]; exact hI) d_Sa_followAll_100
    · skip
      have h_9_0 : set < (2 ^ cn) := yltN c_9_0 (by omega) (by omega)
      refine lv_iconst (v := nI 0) hx hb d_Sa_followAll_12 (by decide) ?_
      refine lv_istore (lv' := [(4, .int (nI 0)), (3, .int (nI set)), (0, .ref sa), (1, .ref ho), (2, .int (nI st))]) hx hb d_Sa_followAll_13  hl (by decide) rfl (fun ls hl => ?_)
      refine lv_iconst (v := nI 0) hx hb d_Sa_followAll_15 (by decide) ?_
      refine lv_istore (lv' := [(5, .int (nI 0)), (4, .int (nI 0)), (3, .int (nI set)), (0, .ref sa), (1, .ref ho), (2, .int (nI st))]) hx hb d_Sa_followAll_16  hl (by decide) rfl (fun ls hl => ?_)
      refine lp_Sa_followIn (AF0 := AF0) hc hs hlr hlp (by omega) hm ?_ (cn + 1) 0 0 (by omega) (by omega) rfl _ _ ls hw (lv_sub hl [0, 1, 2, 3, 4, 5] rfl)
      intro nx H locs ls hnx hw hl
      refine lv_aload_n hx hb d_Sa_followAll_81 rfl (lv_at hl 2 rfl) ?_
      refine b_get (T := F_Sa) hm hw 0 rfl rfl (fun w h => uw_of w (u_Sa w h)) 5 (by decide) (uw_of _ k_130) rfl d_Sa_followAll_82 ?_
      refine lv_iload_n hx hb d_Sa_followAll_85 rfl (lv_at hl 4 rfl) ?_
      refine lv_bipush (v := nI 8) hx hb d_Sa_followAll_86 (by decide) ?_
      refine lv_imul hx hb d_Sa_followAll_88 ?_
      refine b_ti (pk_mul st 8) ?_
      refine lv_iload_n hx hb d_Sa_followAll_89 rfl (lv_at hl 1 rfl) ?_
      refine lv_iadd hx hb d_Sa_followAll_90 ?_
      refine b_ti (nI_add (st * 8) set) ?_
      refine lv_iload hx hb d_Sa_followAll_91 (lv_at hl 0 rfl) ?_
      refine b_iast (i := st * 8 + set) hm hw 1 0 rfl rfl (by omega) (by omega) d_Sa_followAll_93 (w1 := [(sa, .inr (5, [.ref rc, .int (nI n), .ref rb, .ref mr, .ref mpp, .ref af])), (af, .inl (k 0, 4096, .inl (fun j => nI ((va_up AF (st * 8 + set) nx) j)))), (ho, .inr (1, [.ref ma, .int (nI cn), .ref fa])), (ma, .inl (k 3, 3, .inr (.inr (.inr (.inr (mAd m0 m1 m2)))))), (m0, .inr (3, [.int (nI (lr 0)), .int (nI (lp 0)), .int (nI (sc 0)), .ref (hq 0), .ref (pq 0), .ref (oq 0)])), (m1, .inr (3, [.int (nI (lr 1)), .int (nI (lp 1)), .int (nI (sc 1)), .ref (hq 1), .ref (pq 1), .ref (oq 1)])), (m2, .inr (3, [.int (nI (lr 2)), .int (nI (lp 2)), .int (nI (sc 2)), .ref (hq 2), .ref (pq 2), .ref (oq 2)]))]) (by rw [updN]; rfl) (fun H locs hw => ?_)
      refine lv_iinc (v := nI (set + 1)) (lv' := [(3, .int (nI (set + 1))), (4, .int (nI nx)), (0, .ref sa), (1, .ref ho), (2, .int (nI st))]) hx hb d_Sa_followAll_94 hl (k := 1) rfl (nI_add set 1) (by decide) rfl (fun ls hl => ?_)
      refine lv_goto (tgt := 2) hx hb d_Sa_followAll_97 (by decide) ?_
      have hpc : 2 ^ cn = 1 ∨ 2 ^ cn = 2 ∨ 2 ^ cn = 4 ∨ 2 ^ cn = 8 := by rcases (show cn = 0 ∨ cn = 1 ∨ cn = 2 ∨ cn = 3 by omega) with h | h | h | h <;> subst h <;> simp
      exact ih (set + 1) _ (by omega) (by omega) (by unfold flI at hI ⊢; simp only [va_up]; grind) H locs ls hw (lv_sub hl [0, 2, 3, 4] rfl)

set_option maxHeartbeats 4000000 in
set_option maxRecDepth 100000 in
theorem c_Sa_followAll (l : Launch) (D : va_G) (k : Nat → ClassId) (sz : Nat) (sa rc rb mr mpp af ho ma fa cn st n m0 m1 m2 : Nat) (lr lp sc hq pq oq : Nat → Nat) (AF0 : Nat → Nat) (hc : cn ≤ 3) (hs : st < 512) (hlr : ∀ j, lr j ≤ 4 ∧ lp j ≤ 4) (hlp : ∀ j, j < cn → 1 ≤ lr j ∧ 1 ≤ lp j) : Met l y_Sa_followAll (uw y_Sa_followAll b_Sa_followAll 8 none) (rU 2 0 0) (va_Pc [.ref sa, .ref ho, .int (nI st)] (bP (gU D k) [(sa, .inr (5, [.ref rc, .int (nI n), .ref rb, .ref mr, .ref mpp, .ref af])), (af, .inl (k 0, 4096, .inl (fun j => nI (AF0 j)))), (ho, .inr (1, [.ref ma, .int (nI cn), .ref fa])), (ma, .inl (k 3, 3, .inr (.inr (.inr (.inr (mAd m0 m1 m2)))))), (m0, .inr (3, [.int (nI (lr 0)), .int (nI (lp 0)), .int (nI (sc 0)), .ref (hq 0), .ref (pq 0), .ref (oq 0)])), (m1, .inr (3, [.int (nI (lr 1)), .int (nI (lp 1)), .int (nI (sc 1)), .ref (hq 1), .ref (pq 1), .ref (oq 1)])), (m2, .inr (3, [.int (nI (lr 2)), .int (nI (lp 2)), .int (nI (sc 2)), .ref (hq 2), .ref (pq 2), .ref (oq 2)]))] sz)) (va_Qv (fun (u : Nat → Nat) => flI lr lp cn st AF0 (2 ^ cn) u) (fun u => bQ (gU D k) (va_A [(sa, .inr (5, [.ref rc, .int (nI n), .ref rb, .ref mr, .ref mpp, .ref af])), (af, .inl (k 0, 4096, .inl (fun j => nI (AF0 j)))), (ho, .inr (1, [.ref ma, .int (nI cn), .ref fa])), (ma, .inl (k 3, 3, .inr (.inr (.inr (.inr (mAd m0 m1 m2)))))), (m0, .inr (3, [.int (nI (lr 0)), .int (nI (lp 0)), .int (nI (sc 0)), .ref (hq 0), .ref (pq 0), .ref (oq 0)])), (m1, .inr (3, [.int (nI (lr 1)), .int (nI (lp 1)), .int (nI (sc 1)), .ref (hq 1), .ref (pq 1), .ref (oq 1)])), (m2, .inr (3, [.int (nI (lr 2)), .int (nI (lp 2)), .int (nI (sc 2)), .ref (hq 2), .ref (pq 2), .ref (oq 2)]))] sz) ([(sa, .inr (5, [.ref rc, .int (nI n), .ref rb, .ref mr, .ref mpp, .ref af])), (af, .inl (k 0, 4096, .inl (fun j => nI (u j)))), (ho, .inr (1, [.ref ma, .int (nI cn), .ref fa])), (ma, .inl (k 3, 3, .inr (.inr (.inr (.inr (mAd m0 m1 m2)))))), (m0, .inr (3, [.int (nI (lr 0)), .int (nI (lp 0)), .int (nI (sc 0)), .ref (hq 0), .ref (pq 0), .ref (oq 0)])), (m1, .inr (3, [.int (nI (lr 1)), .int (nI (lp 1)), .int (nI (sc 1)), .ref (hq 1), .ref (pq 1), .ref (oq 1)])), (m2, .inr (3, [.int (nI (lr 2)), .int (nI (lp 2)), .int (nI (sc 2)), .ref (hq 2), .ref (pq 2), .ref (oq 2)]))])) (va_A [(sa, .inr (5, [.ref rc, .int (nI n), .ref rb, .ref mr, .ref mpp, .ref af])), (af, .inl (k 0, 4096, .inl (fun j => nI (AF0 j)))), (ho, .inr (1, [.ref ma, .int (nI cn), .ref fa])), (ma, .inl (k 3, 3, .inr (.inr (.inr (.inr (mAd m0 m1 m2)))))), (m0, .inr (3, [.int (nI (lr 0)), .int (nI (lp 0)), .int (nI (sc 0)), .ref (hq 0), .ref (pq 0), .ref (oq 0)])), (m1, .inr (3, [.int (nI (lr 1)), .int (nI (lp 1)), .int (nI (sc 1)), .ref (hq 1), .ref (pq 1), .ref (oq 1)])), (m2, .inr (3, [.int (nI (lr 2)), .int (nI (lp 2)), .int (nI (sc 2)), .ref (hq 2), .ref (pq 2), .ref (oq 2)]))] sz)) (rU 2 0 0).cells (rU 2 0 0).slots (va_A [(sa, .inr (5, [.ref rc, .int (nI n), .ref rb, .ref mr, .ref mpp, .ref af])), (af, .inl (k 0, 4096, .inl (fun j => nI (AF0 j)))), (ho, .inr (1, [.ref ma, .int (nI cn), .ref fa])), (ma, .inl (k 3, 3, .inr (.inr (.inr (.inr (mAd m0 m1 m2)))))), (m0, .inr (3, [.int (nI (lr 0)), .int (nI (lp 0)), .int (nI (sc 0)), .ref (hq 0), .ref (pq 0), .ref (oq 0)])), (m1, .inr (3, [.int (nI (lr 1)), .int (nI (lp 1)), .int (nI (sc 1)), .ref (hq 1), .ref (pq 1), .ref (oq 1)])), (m2, .inr (3, [.int (nI (lr 2)), .int (nI (lp 2)), .int (nI (sc 2)), .ref (hq 2), .ref (pq 2), .ref (oq 2)]))] sz) := by
  refine b_start (Qc := fun A => va_Qv (fun (u : Nat → Nat) => flI lr lp cn st AF0 (2 ^ cn) u) (fun u => bQ (gU D k) A ([(sa, .inr (5, [.ref rc, .int (nI n), .ref rb, .ref mr, .ref mpp, .ref af])), (af, .inl (k 0, 4096, .inl (fun j => nI (u j)))), (ho, .inr (1, [.ref ma, .int (nI cn), .ref fa])), (ma, .inl (k 3, 3, .inr (.inr (.inr (.inr (mAd m0 m1 m2)))))), (m0, .inr (3, [.int (nI (lr 0)), .int (nI (lp 0)), .int (nI (sc 0)), .ref (hq 0), .ref (pq 0), .ref (oq 0)])), (m1, .inr (3, [.int (nI (lr 1)), .int (nI (lp 1)), .int (nI (sc 1)), .ref (hq 1), .ref (pq 1), .ref (oq 1)])), (m2, .inr (3, [.int (nI (lr 2)), .int (nI (lp 2)), .int (nI (sc 2)), .ref (hq 2), .ref (pq 2), .ref (oq 2)]))])) A) (by decide +kernel) (Nat.le_of_ble_eq_true rfl) ?_
  intro p e s m below meth c A hm hnm hw ls hl
  have hl : lv_has ls 8 [(0, .ref sa), (1, .ref ho), (2, .int (nI st))] := hl
  have hx := hm.1
  have hb := hm.2.1
  have hown := hm.2.2.2.2.1
  have hts := hm.2.2.2.2.2.1
  refine lv_iconst (v := nI 0) hx hb d_Sa_followAll_0 (by decide) ?_
  refine lv_istore_n (lv' := [(3, .int (nI 0)), (0, .ref sa), (1, .ref ho), (2, .int (nI st))]) hx hb d_Sa_followAll_1 rfl hl (by decide) rfl (fun ls hl => ?_)
  exact lp_Sa_followAll hc hs hlr hlp hm hnm (2 ^ cn + 1) 0 _ (by omega) (Nat.zero_le _) ⟨fun x h => absurd h (by omega), fun j h => rfl⟩ _ _ ls hw (lv_sub hl [0, 1, 2, 3] rfl)
