/-! a machine joins: the states that there are then -/

set_option maxHeartbeats 4000000 in
set_option maxRecDepth 100000 in
theorem lp_Sa_extF {l : Launch} {D : va_G} {k : Nat → ClassId} {sa rc rb mr mpp af ho ma fa cn kk n0 m0 m1 m2 : Nat} {lr lp sc hq pq oq R0 : Nat → Nat} (hc : cn = kk + 1) (hk : kk < 3) (hlr : ∀ j, lr j ≤ 4 ∧ lp j ≤ 4) (hlp : ∀ j, j < cn → 1 ≤ lr j ∧ 1 ≤ lp j) (hn0 : n0 ≤ 64) (hR0 : ∀ j, j < n0 → R0 j < 8 ^ kk) {n : Nat} {R : Nat → Nat} (hE : exI n0 kk (lr kk) (lp kk) R0 8 0 n R) (hRb : ∀ j, R j < 512) {p : Program} {e : Env} {s : State} {m : MethodId} {below : List Frame} {meth : Method} {c : Code} {A : Nat → Prop} (hm : bM p s m (([.ref sa, .ref ho, .int (nI kk)] : List Value).toArray) meth c "HeatMachines$States" b_Sa_extend 6 none (uw y_Sa_extend b_Sa_extend 6 none)) (hnm : meth.name = "extend") :
    ∀ (f : Nat) (i : Nat) (RB MR MP AF : Nat → Nat), n + 1 ≤ i + f → i ≤ n → stOk lr lp cn i R RB MR MP AF → bxR RB MR MP AF → ∀ (H : Heap) (locs : List Loc) (ls : Array Slot), bW (gU D k) A s H locs [(sa, .inr (5, [.ref rc, .int (nI n), .ref rb, .ref mr, .ref mpp, .ref af])), (rc, .inl (k 0, 512, .inl (fun j => nI (R j)))), (rb, .inl (k 0, 512, .inl (fun j => nI (RB j)))), (mr, .inl (k 0, 512, .inl (fun j => nI (MR j)))), (mpp, .inl (k 0, 512, .inl (fun j => nI (MP j)))), (af, .inl (k 0, 4096, .inl (fun j => nI (AF j)))), (ho, .inr (1, [.ref ma, .int (nI cn), .ref fa])), (ma, .inl (k 3, 3, .inr (.inr (.inr (.inr (mAd m0 m1 m2)))))), (m0, .inr (3, [.int (nI (lr 0)), .int (nI (lp 0)), .int (nI (sc 0)), .ref (hq 0), .ref (pq 0), .ref (oq 0)])), (m1, .inr (3, [.int (nI (lr 1)), .int (nI (lp 1)), .int (nI (sc 1)), .ref (hq 1), .ref (pq 1), .ref (oq 1)])), (m2, .inr (3, [.int (nI (lr 2)), .int (nI (lp 2)), .int (nI (sc 2)), .ref (hq 2), .ref (pq 2), .ref (oq 2)]))] → lv_has ls 6 [(4, .int (nI i)), (3, .int (nI n0)), (0, .ref sa), (1, .ref ho), (2, .int (nI kk))] → W p l e (rU 3 0 0) s m (([.ref sa, .ref ho, .int (nI kk)] : List Value).toArray) below meth c H locs 0 0 (MQ below (va_Qv (fun (u : Nat × (Nat → Nat) × (Nat → Nat) × (Nat → Nat) × (Nat → Nat) × (Nat → Nat)) => exI n0 kk (lr kk) (lp kk) R0 8 0 u.1 u.2.1 ∧ stOk lr lp cn u.1 u.2.1 u.2.2.1 u.2.2.2.1 u.2.2.2.2.1 u.2.2.2.2.2 ∧ bxI u.2.1 u.2.2.1 u.2.2.2.1 u.2.2.2.2.1 u.2.2.2.2.2) (fun u => bQ (gU D k) A ([(sa, .inr (5, [.ref rc, .int (nI u.1), .ref rb, .ref mr, .ref mpp, .ref af])), (rc, .inl (k 0, 512, .inl (fun j => nI (u.2.1 j)))), (rb, .inl (k 0, 512, .inl (fun j => nI (u.2.2.1 j)))), (mr, .inl (k 0, 512, .inl (fun j => nI (u.2.2.2.1 j)))), (mpp, .inl (k 0, 512, .inl (fun j => nI (u.2.2.2.2.1 j)))), (af, .inl (k 0, 4096, .inl (fun j => nI (u.2.2.2.2.2 j)))), (ho, .inr (1, [.ref ma, .int (nI cn), .ref fa])), (ma, .inl (k 3, 3, .inr (.inr (.inr (.inr (mAd m0 m1 m2)))))), (m0, .inr (3, [.int (nI (lr 0)), .int (nI (lp 0)), .int (nI (sc 0)), .ref (hq 0), .ref (pq 0), .ref (oq 0)])), (m1, .inr (3, [.int (nI (lr 1)), .int (nI (lp 1)), .int (nI (sc 1)), .ref (hq 1), .ref (pq 1), .ref (oq 1)])), (m2, .inr (3, [.int (nI (lr 2)), .int (nI (lp 2)), .int (nI (sc 2)), .ref (hq 2), .ref (pq 2), .ref (oq 2)]))])) A) (([.ref sa, .ref ho, .int (nI kk)] : List Value).toArray) s (rU 3 0 0).cells (rU 3 0 0).slots A) (F0 m 96 ls []) := by
  have hx := hm.1
  have hb := hm.2.1
  have hown := hm.2.2.2.2.1
  have hts := hm.2.2.2.2.2.1
  intro f
  induction f with
  | zero => intro i RB MR MP AF hf hi hI hX9; exfalso; omega
  | succ f ih =>
    intro i RB MR MP AF hf hi hI hX9 H locs ls hw hl
    have hn512 := exI_le hE hn0 (by omega) (Or.inl rfl)
    refine lv_iload hx hb d_Sa_extend_96 (lv_at hl 0 rfl) ?_
    refine lv_aload_n hx hb d_Sa_extend_98 rfl (lv_at hl 2 rfl) ?_
    refine b_get (T := F_Sa) hm hw 0 rfl rfl (fun w h => uw_of w (u_Sa w h)) 1 (by decide) (uw_of _ k_122) rfl d_Sa_extend_99 ?_
    refine lv_icmp_ge (tgt := 135) hx hb d_Sa_extend_102 (by decide) (fun c_102_0 => ?_) (fun c_102_0 => ?_)
    · skip
      have h_102_0 : n ≤ i := yge c_102_0 (by omega) (by omega)
      exact b_vret (post := fun (u : Nat × (Nat → Nat) × (Nat → Nat) × (Nat → Nat) × (Nat → Nat) × (Nat → Nat)) => exI n0 kk (lr kk) (lp kk) R0 8 0 u.1 u.2.1 ∧ stOk lr lp cn u.1 u.2.1 u.2.2.1 u.2.2.2.1 u.2.2.2.2.1 u.2.2.2.2.2 ∧ bxI u.2.1 u.2.2.1 u.2.2.2.1 u.2.2.2.2.1 u.2.2.2.2.2) (w' := fun u => [(sa, .inr (5, [.ref rc, .int (nI u.1), .ref rb, .ref mr, .ref mpp, .ref af])), (rc, .inl (k 0, 512, .inl (fun j => nI (u.2.1 j)))), (rb, .inl (k 0, 512, .inl (fun j => nI (u.2.2.1 j)))), (mr, .inl (k 0, 512, .inl (fun j => nI (u.2.2.2.1 j)))), (mpp, .inl (k 0, 512, .inl (fun j => nI (u.2.2.2.2.1 j)))), (af, .inl (k 0, 4096, .inl (fun j => nI (u.2.2.2.2.2 j)))), (ho, .inr (1, [.ref ma, .int (nI cn), .ref fa])), (ma, .inl (k 3, 3, .inr (.inr (.inr (.inr (mAd m0 m1 m2)))))), (m0, .inr (3, [.int (nI (lr 0)), .int (nI (lp 0)), .int (nI (sc 0)), .ref (hq 0), .ref (pq 0), .ref (oq 0)])), (m1, .inr (3, [.int (nI (lr 1)), .int (nI (lp 1)), .int (nI (sc 1)), .ref (hq 1), .ref (pq 1), .ref (oq 1)])), (m2, .inr (3, [.int (nI (lr 2)), .int (nI (lp 2)), .int (nI (sc 2)), .ref (hq 2), .ref (pq 2), .ref (oq 2)]))]) (n, R, RB, MR, MP, AF) hm hw (⟨hE, (by have e : i = n := (by omega); rw [← e]; exact hI), hRb, hX9⟩) d_Sa_extend_135
    · skip
      have h_102_0 : i < n := yltN c_102_0 (by omega) (by omega)
      have hst := exI_st hE hR0 hk (show i < n by omega)
      refine lv_aload_n hx hb d_Sa_extend_105 rfl (lv_at hl 2 rfl) ?_
      refine lv_aload_n hx hb d_Sa_extend_106 rfl (lv_at hl 3 rfl) ?_
      refine lv_aload_n hx hb d_Sa_extend_107 rfl (lv_at hl 2 rfl) ?_
      refine b_get (T := F_Sa) hm hw 0 rfl rfl (fun w h => uw_of w (u_Sa w h)) 0 (by decide) (uw_of _ k_120) rfl d_Sa_extend_108 ?_
      refine lv_iload hx hb d_Sa_extend_111 (lv_at hl 0 rfl) ?_
      refine b_iald (i := i) hm hw 1 0 rfl rfl (by omega) (by omega) d_Sa_extend_113 ?_
      refine b_ti (show (fun j => nI (R j)) i = nI (R i) from rfl) ?_
      refine b_gov (wr := [(rc, .inl (k 0, 512, .inl (fun j => nI (R j)))), (af, .inl (k 0, 4096, .inl (fun j => nI (AF j)))), (ma, .inl (k 3, 3, .inr (.inr (.inr (.inr (mAd m0 m1 m2)))))), (m0, .inr (3, [.int (nI (lr 0)), .int (nI (lp 0)), .int (nI (sc 0)), .ref (hq 0), .ref (pq 0), .ref (oq 0)])), (m1, .inr (3, [.int (nI (lr 1)), .int (nI (lp 1)), .int (nI (sc 1)), .ref (hq 1), .ref (pq 1), .ref (oq 1)])), (m2, .inr (3, [.int (nI (lr 2)), .int (nI (lp 2)), .int (nI (sc 2)), .ref (hq 2), .ref (pq 2), .ref (oq 2)]))]) (b_runV (wc := [(sa, .inr (5, [.ref rc, .int (nI n), .ref rb, .ref mr, .ref mpp, .ref af])), (rb, .inl (k 0, 512, .inl (fun j => nI (RB j)))), (mr, .inl (k 0, 512, .inl (fun j => nI (MR j)))), (mpp, .inl (k 0, 512, .inl (fun j => nI (MP j)))), (ho, .inr (1, [.ref ma, .int (nI cn), .ref fa]))]) (As := [.ref ho, .int (nI (R i))]) (rest := []) (q0 := 0) hm hw (cwV 2 hts (gV uw_of k_410 k_407 k_409 (mp 8 rfl rfl) k_7) rfl rfl rfl (by decide +kernel) ⟨by decide, by decide⟩) (c_Sa_bindAll l D k _ sa rc rb mr mpp af ho ma fa cn (R i) n RB MR MP (by omega) hst) [0, 2, 3, 4, 6] (by decide) rfl rfl rfl rfl hl.1 rfl (Nat.le_of_ble_eq_true rfl) d_Sa_extend_114 ⟨by decide, by decide⟩) hw [0, 2, 3, 4, 6] [1, 5, 7, 8, 9, 10] rfl rfl (by decide) (by decide) (fun u1 H locs hb1 hw => ?_)
      have hw : bW (gU D k) A s H locs [(sa, .inr (5, [.ref rc, .int (nI n), .ref rb, .ref mr, .ref mpp, .ref af])), (rc, .inl (k 0, 512, .inl (fun j => nI (R j)))), (rb, .inl (k 0, 512, .inl (fun j => nI (u1.1 j)))), (mr, .inl (k 0, 512, .inl (fun j => nI (u1.2.1 j)))), (mpp, .inl (k 0, 512, .inl (fun j => nI (u1.2.2 j)))), (af, .inl (k 0, 4096, .inl (fun j => nI (AF j)))), (ho, .inr (1, [.ref ma, .int (nI cn), .ref fa])), (ma, .inl (k 3, 3, .inr (.inr (.inr (.inr (mAd m0 m1 m2)))))), (m0, .inr (3, [.int (nI (lr 0)), .int (nI (lp 0)), .int (nI (sc 0)), .ref (hq 0), .ref (pq 0), .ref (oq 0)])), (m1, .inr (3, [.int (nI (lr 1)), .int (nI (lp 1)), .int (nI (sc 1)), .ref (hq 1), .ref (pq 1), .ref (oq 1)])), (m2, .inr (3, [.int (nI (lr 2)), .int (nI (lp 2)), .int (nI (sc 2)), .ref (hq 2), .ref (pq 2), .ref (oq 2)]))] := hw.sub [6, 0, 7, 8, 9, 1, 10, 2, 3, 4, 5] (by decide) rfl
      refine lv_aload_n hx hb d_Sa_extend_117 rfl (lv_at hl 2 rfl) ?_
      refine lv_aload_n hx hb d_Sa_extend_118 rfl (lv_at hl 3 rfl) ?_
      refine lv_aload_n hx hb d_Sa_extend_119 rfl (lv_at hl 2 rfl) ?_
      refine b_get (T := F_Sa) hm hw 0 rfl rfl (fun w h => uw_of w (u_Sa w h)) 0 (by decide) (uw_of _ k_120) rfl d_Sa_extend_120 ?_
      refine lv_iload hx hb d_Sa_extend_123 (lv_at hl 0 rfl) ?_
      refine b_iald (i := i) hm hw 1 0 rfl rfl (by omega) (by omega) d_Sa_extend_125 ?_
      refine b_ti (show (fun j => nI (R j)) i = nI (R i) from rfl) ?_
      refine b_gov (wr := [(rc, .inl (k 0, 512, .inl (fun j => nI (R j)))), (rb, .inl (k 0, 512, .inl (fun j => nI (u1.1 j)))), (mr, .inl (k 0, 512, .inl (fun j => nI (u1.2.1 j)))), (mpp, .inl (k 0, 512, .inl (fun j => nI (u1.2.2 j))))]) (b_runV (wc := [(sa, .inr (5, [.ref rc, .int (nI n), .ref rb, .ref mr, .ref mpp, .ref af])), (af, .inl (k 0, 4096, .inl (fun j => nI (AF j)))), (ho, .inr (1, [.ref ma, .int (nI cn), .ref fa])), (ma, .inl (k 3, 3, .inr (.inr (.inr (.inr (mAd m0 m1 m2)))))), (m0, .inr (3, [.int (nI (lr 0)), .int (nI (lp 0)), .int (nI (sc 0)), .ref (hq 0), .ref (pq 0), .ref (oq 0)])), (m1, .inr (3, [.int (nI (lr 1)), .int (nI (lp 1)), .int (nI (sc 1)), .ref (hq 1), .ref (pq 1), .ref (oq 1)])), (m2, .inr (3, [.int (nI (lr 2)), .int (nI (lp 2)), .int (nI (sc 2)), .ref (hq 2), .ref (pq 2), .ref (oq 2)]))]) (As := [.ref ho, .int (nI (R i))]) (rest := []) (q0 := 0) hm hw (cwV 2 hts (gV uw_of k_421 k_418 k_420 (mp 9 rfl rfl) k_7) rfl rfl rfl (by decide +kernel) ⟨by decide, by decide⟩) (c_Sa_followAll l D k _ sa rc rb mr mpp af ho ma fa cn (R i) n m0 m1 m2 lr lp sc hq pq oq AF (by omega) hst hlr hlp) [0, 5, 6, 7, 8, 9, 10] (by decide) rfl rfl rfl rfl hl.1 rfl (Nat.le_of_ble_eq_true rfl) d_Sa_extend_126 ⟨by decide, by decide⟩) hw [0, 5, 6, 7, 8, 9, 10] [1, 2, 3, 4] rfl rfl (by decide) (by decide) (fun u2 H locs hf1 hw => ?_)
      have hw : bW (gU D k) A s H locs [(sa, .inr (5, [.ref rc, .int (nI n), .ref rb, .ref mr, .ref mpp, .ref af])), (rc, .inl (k 0, 512, .inl (fun j => nI (R j)))), (rb, .inl (k 0, 512, .inl (fun j => nI (u1.1 j)))), (mr, .inl (k 0, 512, .inl (fun j => nI (u1.2.1 j)))), (mpp, .inl (k 0, 512, .inl (fun j => nI (u1.2.2 j)))), (af, .inl (k 0, 4096, .inl (fun j => nI (u2 j)))), (ho, .inr (1, [.ref ma, .int (nI cn), .ref fa])), (ma, .inl (k 3, 3, .inr (.inr (.inr (.inr (mAd m0 m1 m2)))))), (m0, .inr (3, [.int (nI (lr 0)), .int (nI (lp 0)), .int (nI (sc 0)), .ref (hq 0), .ref (pq 0), .ref (oq 0)])), (m1, .inr (3, [.int (nI (lr 1)), .int (nI (lp 1)), .int (nI (sc 1)), .ref (hq 1), .ref (pq 1), .ref (oq 1)])), (m2, .inr (3, [.int (nI (lr 2)), .int (nI (lp 2)), .int (nI (sc 2)), .ref (hq 2), .ref (pq 2), .ref (oq 2)]))] := hw.sub [4, 0, 1, 2, 3, 5, 6, 7, 8, 9, 10] (by decide) rfl
      refine lv_iinc (v := nI (i + 1)) (lv' := [(4, .int (nI (i + 1))), (3, .int (nI n0)), (0, .ref sa), (1, .ref ho), (2, .int (nI kk))]) hx hb d_Sa_extend_129 hl (k := 0) rfl (nI_add i 1) (by decide) rfl (fun ls hl => ?_)
      refine lv_goto (tgt := 96) hx hb d_Sa_extend_132 (by decide) ?_
      have hn512 := exI_le hE hn0 (by omega) (Or.inl rfl)
      exact ih (i + 1) _ _ _ _ (by omega) (by omega) (stOk_next (by omega) hI hb1 hf1) (bxR_next (by omega) hlr hX9 hb1 hf1) H locs ls hw (lv_sub hl [0, 1, 2, 3, 4] rfl)

set_option maxHeartbeats 4000000 in
set_option maxRecDepth 100000 in
theorem lp_Sa_extI {l : Launch} {D : va_G} {k : Nat → ClassId} {sa rc rb mr mpp af ho ma fa cn kk n0 m0 m1 m2 : Nat} {lr lp sc hq pq oq R0 : Nat → Nat} (hc : cn = kk + 1) (hk : kk < 3) (hlr : ∀ j, lr j ≤ 4 ∧ lp j ≤ 4) (hlp : ∀ j, j < cn → 1 ≤ lr j ∧ 1 ≤ lp j) (hn0 : n0 ≤ 64) (hR0 : ∀ j, j < n0 → R0 j < 8 ^ kk) {RB MR MP AF : Nat → Nat} {d : Nat} (hd : 1 ≤ d) (hd8 : d < 8) {p : Program} {e : Env} {s : State} {m : MethodId} {below : List Frame} {meth : Method} {c : Code} {A : Nat → Prop} {Q : State → Prop} (hm : bM p s m (([.ref sa, .ref ho, .int (nI kk)] : List Value).toArray) meth c "HeatMachines$States" b_Sa_extend 6 none (uw y_Sa_extend b_Sa_extend 6 none)) (kx : ∀ (n : Nat) (R : Nat → Nat) (H : Heap) (locs : List Loc) (ls : Array Slot), exI n0 kk (lr kk) (lp kk) R0 d n0 n R → (∀ j, R j < 512) → bW (gU D k) A s H locs [(sa, .inr (5, [.ref rc, .int (nI n), .ref rb, .ref mr, .ref mpp, .ref af])), (rc, .inl (k 0, 512, .inl (fun j => nI (R j)))), (rb, .inl (k 0, 512, .inl (fun j => nI (RB j)))), (mr, .inl (k 0, 512, .inl (fun j => nI (MR j)))), (mpp, .inl (k 0, 512, .inl (fun j => nI (MP j)))), (af, .inl (k 0, 4096, .inl (fun j => nI (AF j)))), (ho, .inr (1, [.ref ma, .int (nI cn), .ref fa])), (ma, .inl (k 3, 3, .inr (.inr (.inr (.inr (mAd m0 m1 m2)))))), (m0, .inr (3, [.int (nI (lr 0)), .int (nI (lp 0)), .int (nI (sc 0)), .ref (hq 0), .ref (pq 0), .ref (oq 0)])), (m1, .inr (3, [.int (nI (lr 1)), .int (nI (lp 1)), .int (nI (sc 1)), .ref (hq 1), .ref (pq 1), .ref (oq 1)])), (m2, .inr (3, [.int (nI (lr 2)), .int (nI (lp 2)), .int (nI (sc 2)), .ref (hq 2), .ref (pq 2), .ref (oq 2)]))] → lv_has ls 6 [(5, .int (nI n0)), (4, .int (nI d)), (3, .int (nI n0)), (0, .ref sa), (1, .ref ho), (2, .int (nI kk))] → W p l e (rU 3 0 0) s m (([.ref sa, .ref ho, .int (nI kk)] : List Value).toArray) below meth c H locs 0 0 Q (F0 m 87 ls [])) :
    ∀ (f : Nat) (i n : Nat) (R : Nat → Nat), n0 + 1 ≤ i + f → i ≤ n0 → exI n0 kk (lr kk) (lp kk) R0 d i n R → (∀ j, R j < 512) → ∀ (H : Heap) (locs : List Loc) (ls : Array Slot), bW (gU D k) A s H locs [(sa, .inr (5, [.ref rc, .int (nI n), .ref rb, .ref mr, .ref mpp, .ref af])), (rc, .inl (k 0, 512, .inl (fun j => nI (R j)))), (rb, .inl (k 0, 512, .inl (fun j => nI (RB j)))), (mr, .inl (k 0, 512, .inl (fun j => nI (MR j)))), (mpp, .inl (k 0, 512, .inl (fun j => nI (MP j)))), (af, .inl (k 0, 4096, .inl (fun j => nI (AF j)))), (ho, .inr (1, [.ref ma, .int (nI cn), .ref fa])), (ma, .inl (k 3, 3, .inr (.inr (.inr (.inr (mAd m0 m1 m2)))))), (m0, .inr (3, [.int (nI (lr 0)), .int (nI (lp 0)), .int (nI (sc 0)), .ref (hq 0), .ref (pq 0), .ref (oq 0)])), (m1, .inr (3, [.int (nI (lr 1)), .int (nI (lp 1)), .int (nI (sc 1)), .ref (hq 1), .ref (pq 1), .ref (oq 1)])), (m2, .inr (3, [.int (nI (lr 2)), .int (nI (lp 2)), .int (nI (sc 2)), .ref (hq 2), .ref (pq 2), .ref (oq 2)]))] → lv_has ls 6 [(5, .int (nI i)), (4, .int (nI d)), (3, .int (nI n0)), (0, .ref sa), (1, .ref ho), (2, .int (nI kk))] → W p l e (rU 3 0 0) s m (([.ref sa, .ref ho, .int (nI kk)] : List Value).toArray) below meth c H locs 0 0 Q (F0 m 18 ls []) := by
  have hx := hm.1
  have hb := hm.2.1
  have hown := hm.2.2.2.2.1
  have hts := hm.2.2.2.2.2.1
  intro f
  induction f with
  | zero => intro i n R hf hi hI hRb; exfalso; omega
  | succ f ih =>
    intro i n R hf hi hI hRb H locs ls hw hl
    refine lv_iload hx hb d_Sa_extend_18 (lv_at hl 0 rfl) ?_
    refine lv_iload_n hx hb d_Sa_extend_20 rfl (lv_at hl 2 rfl) ?_
    refine lv_icmp_ge (tgt := 87) hx hb d_Sa_extend_21 (by decide) (fun c_21_0 => ?_) (fun c_21_0 => ?_)
    · skip
      have h_21_0 : n0 ≤ i := yge c_21_0 (by omega) (by omega)
      have e0 : i = n0 := by omega
      subst e0
      exact kx n R H locs ls hI hRb hw (lv_sub hl [0, 1, 2, 3, 4, 5] rfl)
    · skip
      have h_21_0 : i < n0 := yltN c_21_0 (by omega) (by omega)
      have hn512 := exI_lt hI hn0 hd8 (by omega)
      refine lv_aload_n hx hb d_Sa_extend_24 rfl (lv_at hl 3 rfl) ?_
      refine b_get (T := F_Sa) hm hw 0 rfl rfl (fun w h => uw_of w (u_Sa w h)) 1 (by decide) (uw_of _ k_122) rfl d_Sa_extend_25 ?_
      refine lv_sipush (v := nI 512) hx hb d_Sa_extend_28 (by decide) ?_
      refine lv_icmp_ge (tgt := 87) hx hb d_Sa_extend_31 (by decide) (fun c_31_1 => ?_) (fun c_31_1 => ?_)
      · skip
        have h_31_1 : 512 ≤ n := yge c_31_1 (by omega) (by omega)
        exfalso; omega
      · skip
        have h_31_1 : n < 512 := yltN c_31_1 (by omega) (by omega)
        refine lv_aload_n hx hb d_Sa_extend_34 rfl (lv_at hl 4 rfl) ?_
        refine b_getN (T := F_Ho) hm hw 6 rfl rfl (fun w h => uw_of w (u_Ho w h)) 0 (by decide) (k_97) rfl d_Sa_extend_35 ?_
        refine lv_iload_n hx hb d_Sa_extend_38 rfl (lv_at hl 5 rfl) ?_
        rcases (show kk = 0 ∨ kk = 1 ∨ kk = 2 by omega) with hi0 | hi0 | hi0
        · skip
          refine b_aald (i := kk) (v := m0) hm hw 7 3 rfl rfl rfl (by omega) (by omega) (by rw [hi0]; rfl) d_Sa_extend_39 ?_
          refine lv_iload hx hb d_Sa_extend_40 (lv_at hl 1 rfl) ?_
          refine b_goi (wr := [(sa, .inr (5, [.ref rc, .int (nI n), .ref rb, .ref mr, .ref mpp, .ref af])), (rc, .inl (k 0, 512, .inl (fun j => nI (R j)))), (rb, .inl (k 0, 512, .inl (fun j => nI (RB j)))), (mr, .inl (k 0, 512, .inl (fun j => nI (MR j)))), (mpp, .inl (k 0, 512, .inl (fun j => nI (MP j)))), (af, .inl (k 0, 4096, .inl (fun j => nI (AF j)))), (ho, .inr (1, [.ref ma, .int (nI cn), .ref fa])), (ma, .inl (k 3, 3, .inr (.inr (.inr (.inr (mAd m0 m1 m2)))))), (m1, .inr (3, [.int (nI (lr 1)), .int (nI (lp 1)), .int (nI (sc 1)), .ref (hq 1), .ref (pq 1), .ref (oq 1)])), (m2, .inr (3, [.int (nI (lr 2)), .int (nI (lp 2)), .int (nI (sc 2)), .ref (hq 2), .ref (pq 2), .ref (oq 2)]))]) (b_runV (wc := [(m0, .inr (3, [.int (nI (lr 0)), .int (nI (lp 0)), .int (nI (sc 0)), .ref (hq 0), .ref (pq 0), .ref (oq 0)]))]) (As := [.int (nI d)]) (rest := []) (q0 := 8) hm hw (cwV 1 hts (gV uw_of k_403 k_400 k_401 (k_402) k_4) rfl rfl rfl (by decide +kernel) ⟨by decide, by decide⟩) (c_Mc_canReach l D k _ m0 (lr 0) (lp 0) (hq 0) (pq 0) (oq 0) (nI (sc 0)) d hd8 (hlr 0).1 (hlr 0).2) [8] (by decide) rfl rfl rfl rfl hl.1 rfl (Nat.le_of_ble_eq_true rfl) d_Sa_extend_42 ⟨by decide, by decide⟩) hw [8] [0, 1, 2, 3, 4, 5, 6, 7, 9, 10] rfl rfl (by decide) (by decide) (fun r _ H locs hp hw => ?_)
          have hw : bW (gU D k) A s H locs [(sa, .inr (5, [.ref rc, .int (nI n), .ref rb, .ref mr, .ref mpp, .ref af])), (rc, .inl (k 0, 512, .inl (fun j => nI (R j)))), (rb, .inl (k 0, 512, .inl (fun j => nI (RB j)))), (mr, .inl (k 0, 512, .inl (fun j => nI (MR j)))), (mpp, .inl (k 0, 512, .inl (fun j => nI (MP j)))), (af, .inl (k 0, 4096, .inl (fun j => nI (AF j)))), (ho, .inr (1, [.ref ma, .int (nI cn), .ref fa])), (ma, .inl (k 3, 3, .inr (.inr (.inr (.inr (mAd m0 m1 m2)))))), (m0, .inr (3, [.int (nI (lr 0)), .int (nI (lp 0)), .int (nI (sc 0)), .ref (hq 0), .ref (pq 0), .ref (oq 0)])), (m1, .inr (3, [.int (nI (lr 1)), .int (nI (lp 1)), .int (nI (sc 1)), .ref (hq 1), .ref (pq 1), .ref (oq 1)])), (m2, .inr (3, [.int (nI (lr 2)), .int (nI (lp 2)), .int (nI (sc 2)), .ref (hq 2), .ref (pq 2), .ref (oq 2)]))] := hw.sub [0, 1, 2, 3, 4, 5, 6, 7, 10, 8, 9] (by decide) rfl
          have hp : (r = 1 ∧ rch (lr kk) (lp kk) d) ∨ (r = 0 ∧ ¬ rch (lr kk) (lp kk) d) := by rw [hi0]; exact hp
          refine lv_if_eq (tgt := 81) hx hb d_Sa_extend_45 (by decide) (fun c_45_2 => ?_) (fun c_45_2 => ?_)
          · skip
            refine lv_iinc (v := nI (i + 1)) (lv' := [(5, .int (nI (i + 1))), (4, .int (nI d)), (3, .int (nI n0)), (0, .ref sa), (1, .ref ho), (2, .int (nI kk))]) hx hb d_Sa_extend_81 hl (k := 0) rfl (nI_add i 1) (by decide) rfl (fun ls hl => ?_)
            refine lv_goto (tgt := 18) hx hb d_Sa_extend_84 (by decide) ?_
            exact ih (i + 1) _ _ (by omega) (by omega) (exI_skip hI (by grind)) (hRb) H locs ls hw (lv_sub hl [0, 1, 2, 3, 4, 5] rfl)
          · skip
            have hr : rch (lr kk) (lp kk) d := by grind
            have hRi : R i = R0 i := hI.2.1 i (by omega)
            have hR0i := hR0 i (by omega)
            have hp8 := p83 hk
            refine lv_aload_n hx hb d_Sa_extend_48 rfl (lv_at hl 3 rfl) ?_
            refine b_get (T := F_Sa) hm hw 0 rfl rfl (fun w h => uw_of w (u_Sa w h)) 0 (by decide) (uw_of _ k_120) rfl d_Sa_extend_49 ?_
            refine lv_aload_n hx hb d_Sa_extend_52 rfl (lv_at hl 3 rfl) ?_
            refine b_get (T := F_Sa) hm hw 0 rfl rfl (fun w h => uw_of w (u_Sa w h)) 1 (by decide) (uw_of _ k_122) rfl d_Sa_extend_53 ?_
            refine lv_aload_n hx hb d_Sa_extend_56 rfl (lv_at hl 3 rfl) ?_
            refine b_get (T := F_Sa) hm hw 0 rfl rfl (fun w h => uw_of w (u_Sa w h)) 0 (by decide) (uw_of _ k_120) rfl d_Sa_extend_57 ?_
            refine lv_iload hx hb d_Sa_extend_60 (lv_at hl 0 rfl) ?_
            refine b_iald (i := i) hm hw 1 0 rfl rfl (by omega) (by omega) d_Sa_extend_62 ?_
            refine b_ti (show (fun j => nI (R j)) i = nI (R i) from rfl) ?_
            refine lv_iload hx hb d_Sa_extend_63 (lv_at hl 1 rfl) ?_
            refine lv_iconst (v := nI 3) hx hb d_Sa_extend_65 (by decide) ?_
            refine lv_iload_n hx hb d_Sa_extend_66 rfl (lv_at hl 5 rfl) ?_
            refine lv_imul hx hb d_Sa_extend_67 ?_
            refine b_ti (pk_mul 3 kk) ?_
            refine lv_ishl hx hb d_Sa_extend_68 ?_
            refine b_ti (nI_shl (a := d) (b := 3 * kk) (by omega) (by rcases hp8 with h | h | h <;> rw [h] <;> omega)) ?_
            refine lv_ior hx hb d_Sa_extend_69 ?_
            refine b_ti (nI_or (R i) (d * 2 ^ (3 * kk))) ?_
            refine b_ti (y := nI (R0 i + d * 8 ^ kk)) (congrArg nI (by rw [hRi, or_add (by rw [Nat.pow_mul]; exact hR0i), Nat.pow_mul])) ?_
            refine b_iast (i := n) hm hw 1 0 rfl rfl (by omega) (by omega) d_Sa_extend_70 (w1 := [(sa, .inr (5, [.ref rc, .int (nI n), .ref rb, .ref mr, .ref mpp, .ref af])), (rc, .inl (k 0, 512, .inl (fun j => nI ((va_up R n (R0 i + d * 8 ^ kk)) j)))), (rb, .inl (k 0, 512, .inl (fun j => nI (RB j)))), (mr, .inl (k 0, 512, .inl (fun j => nI (MR j)))), (mpp, .inl (k 0, 512, .inl (fun j => nI (MP j)))), (af, .inl (k 0, 4096, .inl (fun j => nI (AF j)))), (ho, .inr (1, [.ref ma, .int (nI cn), .ref fa])), (ma, .inl (k 3, 3, .inr (.inr (.inr (.inr (mAd m0 m1 m2)))))), (m0, .inr (3, [.int (nI (lr 0)), .int (nI (lp 0)), .int (nI (sc 0)), .ref (hq 0), .ref (pq 0), .ref (oq 0)])), (m1, .inr (3, [.int (nI (lr 1)), .int (nI (lp 1)), .int (nI (sc 1)), .ref (hq 1), .ref (pq 1), .ref (oq 1)])), (m2, .inr (3, [.int (nI (lr 2)), .int (nI (lp 2)), .int (nI (sc 2)), .ref (hq 2), .ref (pq 2), .ref (oq 2)]))]) (by rw [updN]; rfl) (fun H locs hw => ?_)
            refine lv_aload_n hx hb d_Sa_extend_71 rfl (lv_at hl 3 rfl) ?_
            refine lv_dup hx hb d_Sa_extend_72 rfl ?_
            refine b_get (T := F_Sa) hm hw 0 rfl rfl (fun w h => uw_of w (u_Sa w h)) 1 (by decide) (uw_of _ k_122) rfl d_Sa_extend_73 ?_
            refine lv_iconst (v := nI 1) hx hb d_Sa_extend_76 (by decide) ?_
            refine lv_iadd hx hb d_Sa_extend_77 ?_
            refine b_ti (nI_add n 1) ?_
            refine b_put (T := F_Sa) hm hw 0 rfl rfl (fun w h => uw_of w (u_Sa w h)) t_Sa t_Sa_ok n_Sa 1 (by decide) (uw_of _ k_122) rfl rfl rfl (Nat.le_of_ble_eq_true rfl) d_Sa_extend_78 (w1 := [(sa, .inr (5, [.ref rc, .int (nI (n + 1)), .ref rb, .ref mr, .ref mpp, .ref af])), (rc, .inl (k 0, 512, .inl (fun j => nI ((va_up R n (R0 i + d * 8 ^ kk)) j)))), (rb, .inl (k 0, 512, .inl (fun j => nI (RB j)))), (mr, .inl (k 0, 512, .inl (fun j => nI (MR j)))), (mpp, .inl (k 0, 512, .inl (fun j => nI (MP j)))), (af, .inl (k 0, 4096, .inl (fun j => nI (AF j)))), (ho, .inr (1, [.ref ma, .int (nI cn), .ref fa])), (ma, .inl (k 3, 3, .inr (.inr (.inr (.inr (mAd m0 m1 m2)))))), (m0, .inr (3, [.int (nI (lr 0)), .int (nI (lp 0)), .int (nI (sc 0)), .ref (hq 0), .ref (pq 0), .ref (oq 0)])), (m1, .inr (3, [.int (nI (lr 1)), .int (nI (lp 1)), .int (nI (sc 1)), .ref (hq 1), .ref (pq 1), .ref (oq 1)])), (m2, .inr (3, [.int (nI (lr 2)), .int (nI (lp 2)), .int (nI (sc 2)), .ref (hq 2), .ref (pq 2), .ref (oq 2)]))]) rfl (fun H locs hw => ?_)
            refine lv_iinc (v := nI (i + 1)) (lv' := [(5, .int (nI (i + 1))), (4, .int (nI d)), (3, .int (nI n0)), (0, .ref sa), (1, .ref ho), (2, .int (nI kk))]) hx hb d_Sa_extend_81 hl (k := 0) rfl (nI_add i 1) (by decide) rfl (fun ls hl => ?_)
            refine lv_goto (tgt := 18) hx hb d_Sa_extend_84 (by decide) ?_
            exact ih (i + 1) _ _ (by omega) (by omega) (exI_add hI hd hd8 (by omega) hr) (bxR_R hRb hk hd8 (hR0 i (by omega))) H locs ls hw (lv_sub hl [0, 1, 2, 3, 4, 5] rfl)
        · skip
          refine b_aald (i := kk) (v := m1) hm hw 7 3 rfl rfl rfl (by omega) (by omega) (by rw [hi0]; rfl) d_Sa_extend_39 ?_
          refine lv_iload hx hb d_Sa_extend_40 (lv_at hl 1 rfl) ?_
          refine b_goi (wr := [(sa, .inr (5, [.ref rc, .int (nI n), .ref rb, .ref mr, .ref mpp, .ref af])), (rc, .inl (k 0, 512, .inl (fun j => nI (R j)))), (rb, .inl (k 0, 512, .inl (fun j => nI (RB j)))), (mr, .inl (k 0, 512, .inl (fun j => nI (MR j)))), (mpp, .inl (k 0, 512, .inl (fun j => nI (MP j)))), (af, .inl (k 0, 4096, .inl (fun j => nI (AF j)))), (ho, .inr (1, [.ref ma, .int (nI cn), .ref fa])), (ma, .inl (k 3, 3, .inr (.inr (.inr (.inr (mAd m0 m1 m2)))))), (m0, .inr (3, [.int (nI (lr 0)), .int (nI (lp 0)), .int (nI (sc 0)), .ref (hq 0), .ref (pq 0), .ref (oq 0)])), (m2, .inr (3, [.int (nI (lr 2)), .int (nI (lp 2)), .int (nI (sc 2)), .ref (hq 2), .ref (pq 2), .ref (oq 2)]))]) (b_runV (wc := [(m1, .inr (3, [.int (nI (lr 1)), .int (nI (lp 1)), .int (nI (sc 1)), .ref (hq 1), .ref (pq 1), .ref (oq 1)]))]) (As := [.int (nI d)]) (rest := []) (q0 := 9) hm hw (cwV 1 hts (gV uw_of k_403 k_400 k_401 (k_402) k_4) rfl rfl rfl (by decide +kernel) ⟨by decide, by decide⟩) (c_Mc_canReach l D k _ m1 (lr 1) (lp 1) (hq 1) (pq 1) (oq 1) (nI (sc 1)) d hd8 (hlr 1).1 (hlr 1).2) [9] (by decide) rfl rfl rfl rfl hl.1 rfl (Nat.le_of_ble_eq_true rfl) d_Sa_extend_42 ⟨by decide, by decide⟩) hw [9] [0, 1, 2, 3, 4, 5, 6, 7, 8, 10] rfl rfl (by decide) (by decide) (fun r _ H locs hp hw => ?_)
          have hw : bW (gU D k) A s H locs [(sa, .inr (5, [.ref rc, .int (nI n), .ref rb, .ref mr, .ref mpp, .ref af])), (rc, .inl (k 0, 512, .inl (fun j => nI (R j)))), (rb, .inl (k 0, 512, .inl (fun j => nI (RB j)))), (mr, .inl (k 0, 512, .inl (fun j => nI (MR j)))), (mpp, .inl (k 0, 512, .inl (fun j => nI (MP j)))), (af, .inl (k 0, 4096, .inl (fun j => nI (AF j)))), (ho, .inr (1, [.ref ma, .int (nI cn), .ref fa])), (ma, .inl (k 3, 3, .inr (.inr (.inr (.inr (mAd m0 m1 m2)))))), (m0, .inr (3, [.int (nI (lr 0)), .int (nI (lp 0)), .int (nI (sc 0)), .ref (hq 0), .ref (pq 0), .ref (oq 0)])), (m1, .inr (3, [.int (nI (lr 1)), .int (nI (lp 1)), .int (nI (sc 1)), .ref (hq 1), .ref (pq 1), .ref (oq 1)])), (m2, .inr (3, [.int (nI (lr 2)), .int (nI (lp 2)), .int (nI (sc 2)), .ref (hq 2), .ref (pq 2), .ref (oq 2)]))] := hw.sub [0, 1, 2, 3, 4, 5, 6, 7, 8, 10, 9] (by decide) rfl
          have hp : (r = 1 ∧ rch (lr kk) (lp kk) d) ∨ (r = 0 ∧ ¬ rch (lr kk) (lp kk) d) := by rw [hi0]; exact hp
          refine lv_if_eq (tgt := 81) hx hb d_Sa_extend_45 (by decide) (fun c_45_3 => ?_) (fun c_45_3 => ?_)
          · skip
            refine lv_iinc (v := nI (i + 1)) (lv' := [(5, .int (nI (i + 1))), (4, .int (nI d)), (3, .int (nI n0)), (0, .ref sa), (1, .ref ho), (2, .int (nI kk))]) hx hb d_Sa_extend_81 hl (k := 0) rfl (nI_add i 1) (by decide) rfl (fun ls hl => ?_)
            refine lv_goto (tgt := 18) hx hb d_Sa_extend_84 (by decide) ?_
            exact ih (i + 1) _ _ (by omega) (by omega) (exI_skip hI (by grind)) (hRb) H locs ls hw (lv_sub hl [0, 1, 2, 3, 4, 5] rfl)
          · skip
            have hr : rch (lr kk) (lp kk) d := by grind
            have hRi : R i = R0 i := hI.2.1 i (by omega)
            have hR0i := hR0 i (by omega)
            have hp8 := p83 hk
            refine lv_aload_n hx hb d_Sa_extend_48 rfl (lv_at hl 3 rfl) ?_
            refine b_get (T := F_Sa) hm hw 0 rfl rfl (fun w h => uw_of w (u_Sa w h)) 0 (by decide) (uw_of _ k_120) rfl d_Sa_extend_49 ?_
            refine lv_aload_n hx hb d_Sa_extend_52 rfl (lv_at hl 3 rfl) ?_
            refine b_get (T := F_Sa) hm hw 0 rfl rfl (fun w h => uw_of w (u_Sa w h)) 1 (by decide) (uw_of _ k_122) rfl d_Sa_extend_53 ?_
            refine lv_aload_n hx hb d_Sa_extend_56 rfl (lv_at hl 3 rfl) ?_
            refine b_get (T := F_Sa) hm hw 0 rfl rfl (fun w h => uw_of w (u_Sa w h)) 0 (by decide) (uw_of _ k_120) rfl d_Sa_extend_57 ?_
            refine lv_iload hx hb d_Sa_extend_60 (lv_at hl 0 rfl) ?_
            refine b_iald (i := i) hm hw 1 0 rfl rfl (by omega) (by omega) d_Sa_extend_62 ?_
            refine b_ti (show (fun j => nI (R j)) i = nI (R i) from rfl) ?_
            refine lv_iload hx hb d_Sa_extend_63 (lv_at hl 1 rfl) ?_
            refine lv_iconst (v := nI 3) hx hb d_Sa_extend_65 (by decide) ?_
            refine lv_iload_n hx hb d_Sa_extend_66 rfl (lv_at hl 5 rfl) ?_
            refine lv_imul hx hb d_Sa_extend_67 ?_
            refine b_ti (pk_mul 3 kk) ?_
            refine lv_ishl hx hb d_Sa_extend_68 ?_
            refine b_ti (nI_shl (a := d) (b := 3 * kk) (by omega) (by rcases hp8 with h | h | h <;> rw [h] <;> omega)) ?_
            refine lv_ior hx hb d_Sa_extend_69 ?_
            refine b_ti (nI_or (R i) (d * 2 ^ (3 * kk))) ?_
            refine b_ti (y := nI (R0 i + d * 8 ^ kk)) (congrArg nI (by rw [hRi, or_add (by rw [Nat.pow_mul]; exact hR0i), Nat.pow_mul])) ?_
            refine b_iast (i := n) hm hw 1 0 rfl rfl (by omega) (by omega) d_Sa_extend_70 (w1 := [(sa, .inr (5, [.ref rc, .int (nI n), .ref rb, .ref mr, .ref mpp, .ref af])), (rc, .inl (k 0, 512, .inl (fun j => nI ((va_up R n (R0 i + d * 8 ^ kk)) j)))), (rb, .inl (k 0, 512, .inl (fun j => nI (RB j)))), (mr, .inl (k 0, 512, .inl (fun j => nI (MR j)))), (mpp, .inl (k 0, 512, .inl (fun j => nI (MP j)))), (af, .inl (k 0, 4096, .inl (fun j => nI (AF j)))), (ho, .inr (1, [.ref ma, .int (nI cn), .ref fa])), (ma, .inl (k 3, 3, .inr (.inr (.inr (.inr (mAd m0 m1 m2)))))), (m0, .inr (3, [.int (nI (lr 0)), .int (nI (lp 0)), .int (nI (sc 0)), .ref (hq 0), .ref (pq 0), .ref (oq 0)])), (m1, .inr (3, [.int (nI (lr 1)), .int (nI (lp 1)), .int (nI (sc 1)), .ref (hq 1), .ref (pq 1), .ref (oq 1)])), (m2, .inr (3, [.int (nI (lr 2)), .int (nI (lp 2)), .int (nI (sc 2)), .ref (hq 2), .ref (pq 2), .ref (oq 2)]))]) (by rw [updN]; rfl) (fun H locs hw => ?_)
            refine lv_aload_n hx hb d_Sa_extend_71 rfl (lv_at hl 3 rfl) ?_
            refine lv_dup hx hb d_Sa_extend_72 rfl ?_
            refine b_get (T := F_Sa) hm hw 0 rfl rfl (fun w h => uw_of w (u_Sa w h)) 1 (by decide) (uw_of _ k_122) rfl d_Sa_extend_73 ?_
            refine lv_iconst (v := nI 1) hx hb d_Sa_extend_76 (by decide) ?_
            refine lv_iadd hx hb d_Sa_extend_77 ?_
            refine b_ti (nI_add n 1) ?_
            refine b_put (T := F_Sa) hm hw 0 rfl rfl (fun w h => uw_of w (u_Sa w h)) t_Sa t_Sa_ok n_Sa 1 (by decide) (uw_of _ k_122) rfl rfl rfl (Nat.le_of_ble_eq_true rfl) d_Sa_extend_78 (w1 := [(sa, .inr (5, [.ref rc, .int (nI (n + 1)), .ref rb, .ref mr, .ref mpp, .ref af])), (rc, .inl (k 0, 512, .inl (fun j => nI ((va_up R n (R0 i + d * 8 ^ kk)) j)))), (rb, .inl (k 0, 512, .inl (fun j => nI (RB j)))), (mr, .inl (k 0, 512, .inl (fun j => nI (MR j)))), (mpp, .inl (k 0, 512, .inl (fun j => nI (MP j)))), (af, .inl (k 0, 4096, .inl (fun j => nI (AF j)))), (ho, .inr (1, [.ref ma, .int (nI cn), .ref fa])), (ma, .inl (k 3, 3, .inr (.inr (.inr (.inr (mAd m0 m1 m2)))))), (m0, .inr (3, [.int (nI (lr 0)), .int (nI (lp 0)), .int (nI (sc 0)), .ref (hq 0), .ref (pq 0), .ref (oq 0)])), (m1, .inr (3, [.int (nI (lr 1)), .int (nI (lp 1)), .int (nI (sc 1)), .ref (hq 1), .ref (pq 1), .ref (oq 1)])), (m2, .inr (3, [.int (nI (lr 2)), .int (nI (lp 2)), .int (nI (sc 2)), .ref (hq 2), .ref (pq 2), .ref (oq 2)]))]) rfl (fun H locs hw => ?_)
            refine lv_iinc (v := nI (i + 1)) (lv' := [(5, .int (nI (i + 1))), (4, .int (nI d)), (3, .int (nI n0)), (0, .ref sa), (1, .ref ho), (2, .int (nI kk))]) hx hb d_Sa_extend_81 hl (k := 0) rfl (nI_add i 1) (by decide) rfl (fun ls hl => ?_)
            refine lv_goto (tgt := 18) hx hb d_Sa_extend_84 (by decide) ?_
            exact ih (i + 1) _ _ (by omega) (by omega) (exI_add hI hd hd8 (by omega) hr) (bxR_R hRb hk hd8 (hR0 i (by omega))) H locs ls hw (lv_sub hl [0, 1, 2, 3, 4, 5] rfl)
        · skip
          refine b_aald (i := kk) (v := m2) hm hw 7 3 rfl rfl rfl (by omega) (by omega) (by rw [hi0]; rfl) d_Sa_extend_39 ?_
          refine lv_iload hx hb d_Sa_extend_40 (lv_at hl 1 rfl) ?_
          refine b_goi (wr := [(sa, .inr (5, [.ref rc, .int (nI n), .ref rb, .ref mr, .ref mpp, .ref af])), (rc, .inl (k 0, 512, .inl (fun j => nI (R j)))), (rb, .inl (k 0, 512, .inl (fun j => nI (RB j)))), (mr, .inl (k 0, 512, .inl (fun j => nI (MR j)))), (mpp, .inl (k 0, 512, .inl (fun j => nI (MP j)))), (af, .inl (k 0, 4096, .inl (fun j => nI (AF j)))), (ho, .inr (1, [.ref ma, .int (nI cn), .ref fa])), (ma, .inl (k 3, 3, .inr (.inr (.inr (.inr (mAd m0 m1 m2)))))), (m0, .inr (3, [.int (nI (lr 0)), .int (nI (lp 0)), .int (nI (sc 0)), .ref (hq 0), .ref (pq 0), .ref (oq 0)])), (m1, .inr (3, [.int (nI (lr 1)), .int (nI (lp 1)), .int (nI (sc 1)), .ref (hq 1), .ref (pq 1), .ref (oq 1)]))]) (b_runV (wc := [(m2, .inr (3, [.int (nI (lr 2)), .int (nI (lp 2)), .int (nI (sc 2)), .ref (hq 2), .ref (pq 2), .ref (oq 2)]))]) (As := [.int (nI d)]) (rest := []) (q0 := 10) hm hw (cwV 1 hts (gV uw_of k_403 k_400 k_401 (k_402) k_4) rfl rfl rfl (by decide +kernel) ⟨by decide, by decide⟩) (c_Mc_canReach l D k _ m2 (lr 2) (lp 2) (hq 2) (pq 2) (oq 2) (nI (sc 2)) d hd8 (hlr 2).1 (hlr 2).2) [10] (by decide) rfl rfl rfl rfl hl.1 rfl (Nat.le_of_ble_eq_true rfl) d_Sa_extend_42 ⟨by decide, by decide⟩) hw [10] [0, 1, 2, 3, 4, 5, 6, 7, 8, 9] rfl rfl (by decide) (by decide) (fun r _ H locs hp hw => ?_)
          have hw : bW (gU D k) A s H locs [(sa, .inr (5, [.ref rc, .int (nI n), .ref rb, .ref mr, .ref mpp, .ref af])), (rc, .inl (k 0, 512, .inl (fun j => nI (R j)))), (rb, .inl (k 0, 512, .inl (fun j => nI (RB j)))), (mr, .inl (k 0, 512, .inl (fun j => nI (MR j)))), (mpp, .inl (k 0, 512, .inl (fun j => nI (MP j)))), (af, .inl (k 0, 4096, .inl (fun j => nI (AF j)))), (ho, .inr (1, [.ref ma, .int (nI cn), .ref fa])), (ma, .inl (k 3, 3, .inr (.inr (.inr (.inr (mAd m0 m1 m2)))))), (m0, .inr (3, [.int (nI (lr 0)), .int (nI (lp 0)), .int (nI (sc 0)), .ref (hq 0), .ref (pq 0), .ref (oq 0)])), (m1, .inr (3, [.int (nI (lr 1)), .int (nI (lp 1)), .int (nI (sc 1)), .ref (hq 1), .ref (pq 1), .ref (oq 1)])), (m2, .inr (3, [.int (nI (lr 2)), .int (nI (lp 2)), .int (nI (sc 2)), .ref (hq 2), .ref (pq 2), .ref (oq 2)]))] := hw.sub [0, 1, 2, 3, 4, 5, 6, 7, 8, 9, 10] (by decide) rfl
          have hp : (r = 1 ∧ rch (lr kk) (lp kk) d) ∨ (r = 0 ∧ ¬ rch (lr kk) (lp kk) d) := by rw [hi0]; exact hp
          refine lv_if_eq (tgt := 81) hx hb d_Sa_extend_45 (by decide) (fun c_45_4 => ?_) (fun c_45_4 => ?_)
          · skip
            refine lv_iinc (v := nI (i + 1)) (lv' := [(5, .int (nI (i + 1))), (4, .int (nI d)), (3, .int (nI n0)), (0, .ref sa), (1, .ref ho), (2, .int (nI kk))]) hx hb d_Sa_extend_81 hl (k := 0) rfl (nI_add i 1) (by decide) rfl (fun ls hl => ?_)
            refine lv_goto (tgt := 18) hx hb d_Sa_extend_84 (by decide) ?_
            exact ih (i + 1) _ _ (by omega) (by omega) (exI_skip hI (by grind)) (hRb) H locs ls hw (lv_sub hl [0, 1, 2, 3, 4, 5] rfl)
          · skip
            have hr : rch (lr kk) (lp kk) d := by grind
            have hRi : R i = R0 i := hI.2.1 i (by omega)
            have hR0i := hR0 i (by omega)
            have hp8 := p83 hk
            refine lv_aload_n hx hb d_Sa_extend_48 rfl (lv_at hl 3 rfl) ?_
            refine b_get (T := F_Sa) hm hw 0 rfl rfl (fun w h => uw_of w (u_Sa w h)) 0 (by decide) (uw_of _ k_120) rfl d_Sa_extend_49 ?_
            refine lv_aload_n hx hb d_Sa_extend_52 rfl (lv_at hl 3 rfl) ?_
            refine b_get (T := F_Sa) hm hw 0 rfl rfl (fun w h => uw_of w (u_Sa w h)) 1 (by decide) (uw_of _ k_122) rfl d_Sa_extend_53 ?_
            refine lv_aload_n hx hb d_Sa_extend_56 rfl (lv_at hl 3 rfl) ?_
            refine b_get (T := F_Sa) hm hw 0 rfl rfl (fun w h => uw_of w (u_Sa w h)) 0 (by decide) (uw_of _ k_120) rfl d_Sa_extend_57 ?_
            refine lv_iload hx hb d_Sa_extend_60 (lv_at hl 0 rfl) ?_
            refine b_iald (i := i) hm hw 1 0 rfl rfl (by omega) (by omega) d_Sa_extend_62 ?_
            refine b_ti (show (fun j => nI (R j)) i = nI (R i) from rfl) ?_
            refine lv_iload hx hb d_Sa_extend_63 (lv_at hl 1 rfl) ?_
            refine lv_iconst (v := nI 3) hx hb d_Sa_extend_65 (by decide) ?_
            refine lv_iload_n hx hb d_Sa_extend_66 rfl (lv_at hl 5 rfl) ?_
            refine lv_imul hx hb d_Sa_extend_67 ?_
            refine b_ti (pk_mul 3 kk) ?_
            refine lv_ishl hx hb d_Sa_extend_68 ?_
            refine b_ti (nI_shl (a := d) (b := 3 * kk) (by omega) (by rcases hp8 with h | h | h <;> rw [h] <;> omega)) ?_
            refine lv_ior hx hb d_Sa_extend_69 ?_
            refine b_ti (nI_or (R i) (d * 2 ^ (3 * kk))) ?_
            refine b_ti (y := nI (R0 i + d * 8 ^ kk)) (congrArg nI (by rw [hRi, or_add (by rw [Nat.pow_mul]; exact hR0i), Nat.pow_mul])) ?_
            refine b_iast (i := n) hm hw 1 0 rfl rfl (by omega) (by omega) d_Sa_extend_70 (w1 := [(sa, .inr (5, [.ref rc, .int (nI n), .ref rb, .ref mr, .ref mpp, .ref af])), (rc, .inl (k 0, 512, .inl (fun j => nI ((va_up R n (R0 i + d * 8 ^ kk)) j)))), (rb, .inl (k 0, 512, .inl (fun j => nI (RB j)))), (mr, .inl (k 0, 512, .inl (fun j => nI (MR j)))), (mpp, .inl (k 0, 512, .inl (fun j => nI (MP j)))), (af, .inl (k 0, 4096, .inl (fun j => nI (AF j)))), (ho, .inr (1, [.ref ma, .int (nI cn), .ref fa])), (ma, .inl (k 3, 3, .inr (.inr (.inr (.inr (mAd m0 m1 m2)))))), (m0, .inr (3, [.int (nI (lr 0)), .int (nI (lp 0)), .int (nI (sc 0)), .ref (hq 0), .ref (pq 0), .ref (oq 0)])), (m1, .inr (3, [.int (nI (lr 1)), .int (nI (lp 1)), .int (nI (sc 1)), .ref (hq 1), .ref (pq 1), .ref (oq 1)])), (m2, .inr (3, [.int (nI (lr 2)), .int (nI (lp 2)), .int (nI (sc 2)), .ref (hq 2), .ref (pq 2), .ref (oq 2)]))]) (by rw [updN]; rfl) (fun H locs hw => ?_)
            refine lv_aload_n hx hb d_Sa_extend_71 rfl (lv_at hl 3 rfl) ?_
            refine lv_dup hx hb d_Sa_extend_72 rfl ?_
            refine b_get (T := F_Sa) hm hw 0 rfl rfl (fun w h => uw_of w (u_Sa w h)) 1 (by decide) (uw_of _ k_122) rfl d_Sa_extend_73 ?_
            refine lv_iconst (v := nI 1) hx hb d_Sa_extend_76 (by decide) ?_
            refine lv_iadd hx hb d_Sa_extend_77 ?_
            refine b_ti (nI_add n 1) ?_
            refine b_put (T := F_Sa) hm hw 0 rfl rfl (fun w h => uw_of w (u_Sa w h)) t_Sa t_Sa_ok n_Sa 1 (by decide) (uw_of _ k_122) rfl rfl rfl (Nat.le_of_ble_eq_true rfl) d_Sa_extend_78 (w1 := [(sa, .inr (5, [.ref rc, .int (nI (n + 1)), .ref rb, .ref mr, .ref mpp, .ref af])), (rc, .inl (k 0, 512, .inl (fun j => nI ((va_up R n (R0 i + d * 8 ^ kk)) j)))), (rb, .inl (k 0, 512, .inl (fun j => nI (RB j)))), (mr, .inl (k 0, 512, .inl (fun j => nI (MR j)))), (mpp, .inl (k 0, 512, .inl (fun j => nI (MP j)))), (af, .inl (k 0, 4096, .inl (fun j => nI (AF j)))), (ho, .inr (1, [.ref ma, .int (nI cn), .ref fa])), (ma, .inl (k 3, 3, .inr (.inr (.inr (.inr (mAd m0 m1 m2)))))), (m0, .inr (3, [.int (nI (lr 0)), .int (nI (lp 0)), .int (nI (sc 0)), .ref (hq 0), .ref (pq 0), .ref (oq 0)])), (m1, .inr (3, [.int (nI (lr 1)), .int (nI (lp 1)), .int (nI (sc 1)), .ref (hq 1), .ref (pq 1), .ref (oq 1)])), (m2, .inr (3, [.int (nI (lr 2)), .int (nI (lp 2)), .int (nI (sc 2)), .ref (hq 2), .ref (pq 2), .ref (oq 2)]))]) rfl (fun H locs hw => ?_)
            refine lv_iinc (v := nI (i + 1)) (lv' := [(5, .int (nI (i + 1))), (4, .int (nI d)), (3, .int (nI n0)), (0, .ref sa), (1, .ref ho), (2, .int (nI kk))]) hx hb d_Sa_extend_81 hl (k := 0) rfl (nI_add i 1) (by decide) rfl (fun ls hl => ?_)
            refine lv_goto (tgt := 18) hx hb d_Sa_extend_84 (by decide) ?_
            exact ih (i + 1) _ _ (by omega) (by omega) (exI_add hI hd hd8 (by omega) hr) (bxR_R hRb hk hd8 (hR0 i (by omega))) H locs ls hw (lv_sub hl [0, 1, 2, 3, 4, 5] rfl)

set_option maxHeartbeats 4000000 in
set_option maxRecDepth 100000 in
theorem lp_Sa_extD {l : Launch} {D : va_G} {k : Nat → ClassId} {sa rc rb mr mpp af ho ma fa cn kk n0 m0 m1 m2 : Nat} {lr lp sc hq pq oq R0 : Nat → Nat} (hc : cn = kk + 1) (hk : kk < 3) (hlr : ∀ j, lr j ≤ 4 ∧ lp j ≤ 4) (hlp : ∀ j, j < cn → 1 ≤ lr j ∧ 1 ≤ lp j) (hn0 : n0 ≤ 64) (hR0 : ∀ j, j < n0 → R0 j < 8 ^ kk) {RB MR MP AF : Nat → Nat} (hX9 : bxR RB MR MP AF) {p : Program} {e : Env} {s : State} {m : MethodId} {below : List Frame} {meth : Method} {c : Code} {A : Nat → Prop} (hm : bM p s m (([.ref sa, .ref ho, .int (nI kk)] : List Value).toArray) meth c "HeatMachines$States" b_Sa_extend 6 none (uw y_Sa_extend b_Sa_extend 6 none)) (hnm : meth.name = "extend") :
    ∀ (f : Nat) (d n : Nat) (R : Nat → Nat), 9 ≤ d + f → 1 ≤ d → d ≤ 8 → exI n0 kk (lr kk) (lp kk) R0 d 0 n R → (∀ j, R j < 512) → ∀ (H : Heap) (locs : List Loc) (ls : Array Slot), bW (gU D k) A s H locs [(sa, .inr (5, [.ref rc, .int (nI n), .ref rb, .ref mr, .ref mpp, .ref af])), (rc, .inl (k 0, 512, .inl (fun j => nI (R j)))), (rb, .inl (k 0, 512, .inl (fun j => nI (RB j)))), (mr, .inl (k 0, 512, .inl (fun j => nI (MR j)))), (mpp, .inl (k 0, 512, .inl (fun j => nI (MP j)))), (af, .inl (k 0, 4096, .inl (fun j => nI (AF j)))), (ho, .inr (1, [.ref ma, .int (nI cn), .ref fa])), (ma, .inl (k 3, 3, .inr (.inr (.inr (.inr (mAd m0 m1 m2)))))), (m0, .inr (3, [.int (nI (lr 0)), .int (nI (lp 0)), .int (nI (sc 0)), .ref (hq 0), .ref (pq 0), .ref (oq 0)])), (m1, .inr (3, [.int (nI (lr 1)), .int (nI (lp 1)), .int (nI (sc 1)), .ref (hq 1), .ref (pq 1), .ref (oq 1)])), (m2, .inr (3, [.int (nI (lr 2)), .int (nI (lp 2)), .int (nI (sc 2)), .ref (hq 2), .ref (pq 2), .ref (oq 2)]))] → lv_has ls 6 [(4, .int (nI d)), (3, .int (nI n0)), (0, .ref sa), (1, .ref ho), (2, .int (nI kk))] → W p l e (rU 3 0 0) s m (([.ref sa, .ref ho, .int (nI kk)] : List Value).toArray) below meth c H locs 0 0 (MQ below (va_Qv (fun (u : Nat × (Nat → Nat) × (Nat → Nat) × (Nat → Nat) × (Nat → Nat) × (Nat → Nat)) => exI n0 kk (lr kk) (lp kk) R0 8 0 u.1 u.2.1 ∧ stOk lr lp cn u.1 u.2.1 u.2.2.1 u.2.2.2.1 u.2.2.2.2.1 u.2.2.2.2.2 ∧ bxI u.2.1 u.2.2.1 u.2.2.2.1 u.2.2.2.2.1 u.2.2.2.2.2) (fun u => bQ (gU D k) A ([(sa, .inr (5, [.ref rc, .int (nI u.1), .ref rb, .ref mr, .ref mpp, .ref af])), (rc, .inl (k 0, 512, .inl (fun j => nI (u.2.1 j)))), (rb, .inl (k 0, 512, .inl (fun j => nI (u.2.2.1 j)))), (mr, .inl (k 0, 512, .inl (fun j => nI (u.2.2.2.1 j)))), (mpp, .inl (k 0, 512, .inl (fun j => nI (u.2.2.2.2.1 j)))), (af, .inl (k 0, 4096, .inl (fun j => nI (u.2.2.2.2.2 j)))), (ho, .inr (1, [.ref ma, .int (nI cn), .ref fa])), (ma, .inl (k 3, 3, .inr (.inr (.inr (.inr (mAd m0 m1 m2)))))), (m0, .inr (3, [.int (nI (lr 0)), .int (nI (lp 0)), .int (nI (sc 0)), .ref (hq 0), .ref (pq 0), .ref (oq 0)])), (m1, .inr (3, [.int (nI (lr 1)), .int (nI (lp 1)), .int (nI (sc 1)), .ref (hq 1), .ref (pq 1), .ref (oq 1)])), (m2, .inr (3, [.int (nI (lr 2)), .int (nI (lp 2)), .int (nI (sc 2)), .ref (hq 2), .ref (pq 2), .ref (oq 2)]))])) A) (([.ref sa, .ref ho, .int (nI kk)] : List Value).toArray) s (rU 3 0 0).cells (rU 3 0 0).slots A) (F0 m 8 ls []) := by
  have hx := hm.1
  have hb := hm.2.1
  have hown := hm.2.2.2.2.1
  have hts := hm.2.2.2.2.2.1
  intro f
  induction f with
  | zero => intro d n R hf hd hd8 hI hRb; exfalso; omega
  | succ f ih =>
    intro d n R hf hd hd8 hI hRb H locs ls hw hl
    refine lv_iload hx hb d_Sa_extend_8 (lv_at hl 0 rfl) ?_
    refine lv_bipush (v := nI 8) hx hb d_Sa_extend_10 (by decide) ?_
    refine lv_icmp_ge (tgt := 93) hx hb d_Sa_extend_12 (by decide) (fun c_12_0 => ?_) (fun c_12_0 => ?_)
    · skip
      have h_12_0 : 8 ≤ d := yge c_12_0 (by omega) (by omega)
      refine lv_iconst (v := nI 0) hx hb d_Sa_extend_93 (by decide) ?_
      refine lv_istore (lv' := [(4, .int (nI 0)), (3, .int (nI n0)), (0, .ref sa), (1, .ref ho), (2, .int (nI kk))]) hx hb d_Sa_extend_94  hl (by decide) rfl (fun ls hl => ?_)
      have e8 : d = 8 := by omega
      have hI8 : exI n0 kk (lr kk) (lp kk) R0 8 0 n R := by rw [← e8]; exact hI
      exact lp_Sa_extF hc hk hlr hlp hn0 hR0 hI8 hRb hm hnm (n + 1) 0 _ _ _ _ (by omega) (by omega) (fun j h => absurd h (by omega)) hX9 _ _ ls hw (lv_sub hl [0, 1, 2, 3, 4] rfl)
    · skip
      have h_12_0 : d < 8 := yltN c_12_0 (by omega) (by omega)
      refine lv_iconst (v := nI 0) hx hb d_Sa_extend_15 (by decide) ?_
      refine lv_istore (lv' := [(5, .int (nI 0)), (4, .int (nI d)), (3, .int (nI n0)), (0, .ref sa), (1, .ref ho), (2, .int (nI kk))]) hx hb d_Sa_extend_16  hl (by decide) rfl (fun ls hl => ?_)
      refine lp_Sa_extI hc hk hlr hlp hn0 hR0 hd (by omega) hm ?_ (n0 + 1) 0 n R (by omega) (by omega) hI hRb _ _ ls hw (lv_sub hl [0, 1, 2, 3, 4, 5] rfl)
      intro n R H locs ls hI hRb hw hl
      refine lv_iinc (v := nI (d + 1)) (lv' := [(4, .int (nI (d + 1))), (5, .int (nI n0)), (3, .int (nI n0)), (0, .ref sa), (1, .ref ho), (2, .int (nI kk))]) hx hb d_Sa_extend_87 hl (k := 1) rfl (nI_add d 1) (by decide) rfl (fun ls hl => ?_)
      refine lv_goto (tgt := 8) hx hb d_Sa_extend_90 (by decide) ?_
      exact ih (d + 1) n R (by omega) (by omega) (by omega) (exI_next hI hd) hRb H locs ls hw (lv_sub hl [0, 2, 3, 4, 5] rfl)

set_option maxHeartbeats 4000000 in
set_option maxRecDepth 100000 in
theorem c_Sa_extend (l : Launch) (D : va_G) (k : Nat → ClassId) (sz : Nat) (sa rc rb mr mpp af ho ma fa cn kk n0 m0 m1 m2 : Nat) (lr lp sc hq pq oq R0 : Nat → Nat) (hc : cn = kk + 1) (hk : kk < 3) (hlr : ∀ j, lr j ≤ 4 ∧ lp j ≤ 4) (hlp : ∀ j, j < cn → 1 ≤ lr j ∧ 1 ≤ lp j) (hn0 : n0 ≤ 64) (hR0 : ∀ j, j < n0 → R0 j < 8 ^ kk) (RB MR MP AF : Nat → Nat) (hbx : bxI R0 RB MR MP AF) : Met l y_Sa_extend (uw y_Sa_extend b_Sa_extend 6 none) (rU 3 0 0) (va_Pc [.ref sa, .ref ho, .int (nI kk)] (bP (gU D k) [(sa, .inr (5, [.ref rc, .int (nI n0), .ref rb, .ref mr, .ref mpp, .ref af])), (rc, .inl (k 0, 512, .inl (fun j => nI (R0 j)))), (rb, .inl (k 0, 512, .inl (fun j => nI (RB j)))), (mr, .inl (k 0, 512, .inl (fun j => nI (MR j)))), (mpp, .inl (k 0, 512, .inl (fun j => nI (MP j)))), (af, .inl (k 0, 4096, .inl (fun j => nI (AF j)))), (ho, .inr (1, [.ref ma, .int (nI cn), .ref fa])), (ma, .inl (k 3, 3, .inr (.inr (.inr (.inr (mAd m0 m1 m2)))))), (m0, .inr (3, [.int (nI (lr 0)), .int (nI (lp 0)), .int (nI (sc 0)), .ref (hq 0), .ref (pq 0), .ref (oq 0)])), (m1, .inr (3, [.int (nI (lr 1)), .int (nI (lp 1)), .int (nI (sc 1)), .ref (hq 1), .ref (pq 1), .ref (oq 1)])), (m2, .inr (3, [.int (nI (lr 2)), .int (nI (lp 2)), .int (nI (sc 2)), .ref (hq 2), .ref (pq 2), .ref (oq 2)]))] sz)) (va_Qv (fun (u : Nat × (Nat → Nat) × (Nat → Nat) × (Nat → Nat) × (Nat → Nat) × (Nat → Nat)) => exI n0 kk (lr kk) (lp kk) R0 8 0 u.1 u.2.1 ∧ stOk lr lp cn u.1 u.2.1 u.2.2.1 u.2.2.2.1 u.2.2.2.2.1 u.2.2.2.2.2 ∧ bxI u.2.1 u.2.2.1 u.2.2.2.1 u.2.2.2.2.1 u.2.2.2.2.2) (fun u => bQ (gU D k) (va_A [(sa, .inr (5, [.ref rc, .int (nI n0), .ref rb, .ref mr, .ref mpp, .ref af])), (rc, .inl (k 0, 512, .inl (fun j => nI (R0 j)))), (rb, .inl (k 0, 512, .inl (fun j => nI (RB j)))), (mr, .inl (k 0, 512, .inl (fun j => nI (MR j)))), (mpp, .inl (k 0, 512, .inl (fun j => nI (MP j)))), (af, .inl (k 0, 4096, .inl (fun j => nI (AF j)))), (ho, .inr (1, [.ref ma, .int (nI cn), .ref fa])), (ma, .inl (k 3, 3, .inr (.inr (.inr (.inr (mAd m0 m1 m2)))))), (m0, .inr (3, [.int (nI (lr 0)), .int (nI (lp 0)), .int (nI (sc 0)), .ref (hq 0), .ref (pq 0), .ref (oq 0)])), (m1, .inr (3, [.int (nI (lr 1)), .int (nI (lp 1)), .int (nI (sc 1)), .ref (hq 1), .ref (pq 1), .ref (oq 1)])), (m2, .inr (3, [.int (nI (lr 2)), .int (nI (lp 2)), .int (nI (sc 2)), .ref (hq 2), .ref (pq 2), .ref (oq 2)]))] sz) ([(sa, .inr (5, [.ref rc, .int (nI u.1), .ref rb, .ref mr, .ref mpp, .ref af])), (rc, .inl (k 0, 512, .inl (fun j => nI (u.2.1 j)))), (rb, .inl (k 0, 512, .inl (fun j => nI (u.2.2.1 j)))), (mr, .inl (k 0, 512, .inl (fun j => nI (u.2.2.2.1 j)))), (mpp, .inl (k 0, 512, .inl (fun j => nI (u.2.2.2.2.1 j)))), (af, .inl (k 0, 4096, .inl (fun j => nI (u.2.2.2.2.2 j)))), (ho, .inr (1, [.ref ma, .int (nI cn), .ref fa])), (ma, .inl (k 3, 3, .inr (.inr (.inr (.inr (mAd m0 m1 m2)))))), (m0, .inr (3, [.int (nI (lr 0)), .int (nI (lp 0)), .int (nI (sc 0)), .ref (hq 0), .ref (pq 0), .ref (oq 0)])), (m1, .inr (3, [.int (nI (lr 1)), .int (nI (lp 1)), .int (nI (sc 1)), .ref (hq 1), .ref (pq 1), .ref (oq 1)])), (m2, .inr (3, [.int (nI (lr 2)), .int (nI (lp 2)), .int (nI (sc 2)), .ref (hq 2), .ref (pq 2), .ref (oq 2)]))])) (va_A [(sa, .inr (5, [.ref rc, .int (nI n0), .ref rb, .ref mr, .ref mpp, .ref af])), (rc, .inl (k 0, 512, .inl (fun j => nI (R0 j)))), (rb, .inl (k 0, 512, .inl (fun j => nI (RB j)))), (mr, .inl (k 0, 512, .inl (fun j => nI (MR j)))), (mpp, .inl (k 0, 512, .inl (fun j => nI (MP j)))), (af, .inl (k 0, 4096, .inl (fun j => nI (AF j)))), (ho, .inr (1, [.ref ma, .int (nI cn), .ref fa])), (ma, .inl (k 3, 3, .inr (.inr (.inr (.inr (mAd m0 m1 m2)))))), (m0, .inr (3, [.int (nI (lr 0)), .int (nI (lp 0)), .int (nI (sc 0)), .ref (hq 0), .ref (pq 0), .ref (oq 0)])), (m1, .inr (3, [.int (nI (lr 1)), .int (nI (lp 1)), .int (nI (sc 1)), .ref (hq 1), .ref (pq 1), .ref (oq 1)])), (m2, .inr (3, [.int (nI (lr 2)), .int (nI (lp 2)), .int (nI (sc 2)), .ref (hq 2), .ref (pq 2), .ref (oq 2)]))] sz)) (rU 3 0 0).cells (rU 3 0 0).slots (va_A [(sa, .inr (5, [.ref rc, .int (nI n0), .ref rb, .ref mr, .ref mpp, .ref af])), (rc, .inl (k 0, 512, .inl (fun j => nI (R0 j)))), (rb, .inl (k 0, 512, .inl (fun j => nI (RB j)))), (mr, .inl (k 0, 512, .inl (fun j => nI (MR j)))), (mpp, .inl (k 0, 512, .inl (fun j => nI (MP j)))), (af, .inl (k 0, 4096, .inl (fun j => nI (AF j)))), (ho, .inr (1, [.ref ma, .int (nI cn), .ref fa])), (ma, .inl (k 3, 3, .inr (.inr (.inr (.inr (mAd m0 m1 m2)))))), (m0, .inr (3, [.int (nI (lr 0)), .int (nI (lp 0)), .int (nI (sc 0)), .ref (hq 0), .ref (pq 0), .ref (oq 0)])), (m1, .inr (3, [.int (nI (lr 1)), .int (nI (lp 1)), .int (nI (sc 1)), .ref (hq 1), .ref (pq 1), .ref (oq 1)])), (m2, .inr (3, [.int (nI (lr 2)), .int (nI (lp 2)), .int (nI (sc 2)), .ref (hq 2), .ref (pq 2), .ref (oq 2)]))] sz) := by
  refine b_start (Qc := fun A => va_Qv (fun (u : Nat × (Nat → Nat) × (Nat → Nat) × (Nat → Nat) × (Nat → Nat) × (Nat → Nat)) => exI n0 kk (lr kk) (lp kk) R0 8 0 u.1 u.2.1 ∧ stOk lr lp cn u.1 u.2.1 u.2.2.1 u.2.2.2.1 u.2.2.2.2.1 u.2.2.2.2.2 ∧ bxI u.2.1 u.2.2.1 u.2.2.2.1 u.2.2.2.2.1 u.2.2.2.2.2) (fun u => bQ (gU D k) A ([(sa, .inr (5, [.ref rc, .int (nI u.1), .ref rb, .ref mr, .ref mpp, .ref af])), (rc, .inl (k 0, 512, .inl (fun j => nI (u.2.1 j)))), (rb, .inl (k 0, 512, .inl (fun j => nI (u.2.2.1 j)))), (mr, .inl (k 0, 512, .inl (fun j => nI (u.2.2.2.1 j)))), (mpp, .inl (k 0, 512, .inl (fun j => nI (u.2.2.2.2.1 j)))), (af, .inl (k 0, 4096, .inl (fun j => nI (u.2.2.2.2.2 j)))), (ho, .inr (1, [.ref ma, .int (nI cn), .ref fa])), (ma, .inl (k 3, 3, .inr (.inr (.inr (.inr (mAd m0 m1 m2)))))), (m0, .inr (3, [.int (nI (lr 0)), .int (nI (lp 0)), .int (nI (sc 0)), .ref (hq 0), .ref (pq 0), .ref (oq 0)])), (m1, .inr (3, [.int (nI (lr 1)), .int (nI (lp 1)), .int (nI (sc 1)), .ref (hq 1), .ref (pq 1), .ref (oq 1)])), (m2, .inr (3, [.int (nI (lr 2)), .int (nI (lp 2)), .int (nI (sc 2)), .ref (hq 2), .ref (pq 2), .ref (oq 2)]))])) A) (by decide +kernel) (Nat.le_of_ble_eq_true rfl) ?_
  intro p e s m below meth c A hm hnm hw ls hl
  have hl : lv_has ls 6 [(0, .ref sa), (1, .ref ho), (2, .int (nI kk))] := hl
  have hx := hm.1
  have hb := hm.2.1
  have hown := hm.2.2.2.2.1
  have hts := hm.2.2.2.2.2.1
  refine lv_aload_n hx hb d_Sa_extend_0 rfl (lv_at hl 0 rfl) ?_
  refine b_get (T := F_Sa) hm hw 0 rfl rfl (fun w h => uw_of w (u_Sa w h)) 1 (by decide) (uw_of _ k_122) rfl d_Sa_extend_1 ?_
  refine lv_istore_n (lv' := [(3, .int (nI n0)), (0, .ref sa), (1, .ref ho), (2, .int (nI kk))]) hx hb d_Sa_extend_4 rfl hl (by decide) rfl (fun ls hl => ?_)
  refine lv_iconst (v := nI 1) hx hb d_Sa_extend_5 (by decide) ?_
  refine lv_istore (lv' := [(4, .int (nI 1)), (3, .int (nI n0)), (0, .ref sa), (1, .ref ho), (2, .int (nI kk))]) hx hb d_Sa_extend_6  hl (by decide) rfl (fun ls hl => ?_)
  exact lp_Sa_extD hc hk hlr hlp hn0 hR0 hbx.2 hm hnm 9 1 n0 R0 (by omega) (by omega) (by omega) exI_0 hbx.1 _ _ ls hw (lv_sub hl [0, 1, 2, 3, 4] rfl)
