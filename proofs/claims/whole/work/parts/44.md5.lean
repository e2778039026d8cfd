/-! the reference: its search -/

set_option maxHeartbeats 4000000 in
set_option maxRecDepth 100000 in
theorem lp_Md_se4 {l : Launch} {D : va_G} {k : Nat → ClassId} {md : Nat} {za : Nat → Nat} {th cn ov sn kn fd : Nat} {cst : Int64} {co tb : Nat} {IO : Nat → Int32} {OS : Nat → Int32} {RW : Nat → Nat} {RO : Nat → Int32} {RH : Nat → Int32} {RP : Nat → Int32} {LR : Nat → Nat} {LP : Nat → Nat} {NE : Nat → Nat} {PR : Nat → Nat} {CE : Nat → Nat} {gh gp : Nat → Nat → Option Nat} {HN : Nat → Int32} {PN : Nat → Int32} {TH : Nat → Bool} {CO : Nat → Nat} {RK : Nat → Nat} {TX : Nat → Bool} {CX : Nat → Nat} {KX : Nat → Nat} {WY : Nat → Nat} {SE : Nat → Bool} {PL : Nat → Nat} {b : Nat} (hc : cn ≤ 3) (hov : ov ≤ 36) (hsn : sn < 512) (hlr : ∀ j, LR j ≤ 4 ∧ LP j ≤ 4) (hN : ∀ j, NE j ≤ 100000) (hP : ∀ j, PR j ≤ 1000) (hC : ∀ j, CE j ≤ 100000) (hr8 : ∀ k, RW k ≤ 8) (hgb : ∀ h k v, gh h k = some v → v ≤ 100000) (hqb : ∀ h k v, gp h k = some v → v ≤ 100000) (hns : ∀ h k, gh h k = none ↔ gp h k = none) (hg : ∀ h, h < 36 → ∀ k, k < cn → gmR RW RO RH RP (OS h) k (gh h k) (gp h k)) (hb8 : b < 512) (bW9 : ∀ j, WY j < 4096) (hGB : gbI KX CX WY) (hF : fwI (fun h => mayR (fun k => cnO (fun j => IO (36 * k + j)) h (gh h k)) LR LP cn (NE h)) (fun s x => bhR s x 3) (fun h s x => ctR (gp h) CE (PR h) s x cn) (2 ^ cn) ov sn (36 - ov) TH CO RK WY) (hbs : bsI TH CO RK 512 (some b)) {p : Program} {e : Env} {s : State} {m : MethodId} {below : List Frame} {meth : Method} {c : Code} {A : Nat → Prop} (hm : bM p s m (([.ref md] : List Value).toArray) meth c "HeatMachinesModel" b_Md_search 4 (some .boolean) (uw y_Md_search b_Md_search 4 (some .boolean))) (hnm : meth.name = "search") :
    ∀ (f : Nat) (kq : Nat) (PA : Nat → Nat), 36 - ov + 1 ≤ kq + f → kq ≤ 36 - ov → (∀ i, i < kq → PA (35 - i) = WY (512 * (35 - i) + bsW WY b i) % 8) → ∀ (H : Heap) (locs : List Loc) (ls : Array Slot), bW (gU D k) A s H locs [(md, .inr (7, mdL za th cn ov sn kn fd (lN (CO b)) co tb)), (za 12, .inl (k 2, 108, .inl IO)), (za 9, .inl (k 0, 36, .inl OS)), (za 5, .inl (k 0, 3, .inl (fun j => nI (RW j)))), (za 6, .inl (k 0, 24, .inl RO)), (za 7, .inl (k 0, 24, .inl RH)), (za 8, .inl (k 0, 24, .inl RP)), (za 26, .inl (k 0, 3, .inl HN)), (za 27, .inl (k 0, 3, .inl PN)), (za 2, .inl (k 0, 3, .inl (fun j => nI (LR j)))), (za 3, .inl (k 0, 3, .inl (fun j => nI (LP j)))), (za 11, .inl (k 0, 36, .inl (fun j => nI (NE j)))), (za 10, .inl (k 0, 36, .inl (fun j => nI (PR j)))), (za 4, .inl (k 0, 3, .inl (fun j => nI (CE j)))), (za 17, .inl (k 2, 512, .inl (fun j => bI (TH j)))), (za 18, .inl (k 1, 512, .inr (.inl (fun j => lN (CO j))))), (za 19, .inl (k 0, 512, .inl (fun j => nI (RK j)))), (za 20, .inl (k 2, 512, .inl (fun j => bI (TX j)))), (za 21, .inl (k 1, 512, .inr (.inl (fun j => lN (CX j))))), (za 22, .inl (k 0, 512, .inl (fun j => nI (KX j)))), (za 23, .inl (k 0, 18432, .inl (fun j => nI (WY j)))), (za 24, .inl (k 2, 4096, .inl (fun j => bI (SE j)))), (za 25, .inl (k 0, 4096, .inl (fun j => nI (PL j)))), (za 30, .inl (k 0, 36, .inl (fun j => nI (PA j))))] → lv_has ls 4 [(3, .int (nI (36 - kq) - 1)), (2, .int (nI (bsW WY b kq))), (0, .ref md)] → W p l e (rU 4 0 0) s m (([.ref md] : List Value).toArray) below meth c H locs 0 0 (MQ below (va_Qi (fun (r : Int32) (u : hmS × (Nat → Nat) × Int64) => srP (fun h => mayR (fun k => cnO (fun j => IO (36 * k + j)) h (gh h k)) LR LP cn (NE h)) (fun s x => bhR s x 3) (fun h s x => ctR (gp h) CE (PR h) s x cn) (2 ^ cn) ov sn r u.2.1 u.2.2 ∧ gbI (uKX u.1) (uCX u.1) (uWY u.1)) (fun u => bQ (gU D k) A ([(md, .inr (7, mdL za th cn ov sn kn fd u.2.2 co tb)), (za 12, .inl (k 2, 108, .inl IO)), (za 9, .inl (k 0, 36, .inl OS)), (za 5, .inl (k 0, 3, .inl (fun j => nI (RW j)))), (za 6, .inl (k 0, 24, .inl RO)), (za 7, .inl (k 0, 24, .inl RH)), (za 8, .inl (k 0, 24, .inl RP)), (za 26, .inl (k 0, 3, .inl (uHN u.1))), (za 27, .inl (k 0, 3, .inl (uPN u.1))), (za 2, .inl (k 0, 3, .inl (fun j => nI (LR j)))), (za 3, .inl (k 0, 3, .inl (fun j => nI (LP j)))), (za 11, .inl (k 0, 36, .inl (fun j => nI (NE j)))), (za 10, .inl (k 0, 36, .inl (fun j => nI (PR j)))), (za 4, .inl (k 0, 3, .inl (fun j => nI (CE j)))), (za 17, .inl (k 2, 512, .inl (fun j => bI ((uTH u.1) j)))), (za 18, .inl (k 1, 512, .inr (.inl (fun j => lN ((uCO u.1) j))))), (za 19, .inl (k 0, 512, .inl (fun j => nI ((uRK u.1) j)))), (za 20, .inl (k 2, 512, .inl (fun j => bI ((uTX u.1) j)))), (za 21, .inl (k 1, 512, .inr (.inl (fun j => lN ((uCX u.1) j))))), (za 22, .inl (k 0, 512, .inl (fun j => nI ((uKX u.1) j)))), (za 23, .inl (k 0, 18432, .inl (fun j => nI ((uWY u.1) j)))), (za 24, .inl (k 2, 4096, .inl (fun j => bI ((uSE u.1) j)))), (za 25, .inl (k 0, 4096, .inl (fun j => nI ((uPL u.1) j)))), (za 30, .inl (k 0, 36, .inl (fun j => nI (u.2.1 j))))])) A) (([.ref md] : List Value).toArray) s (rU 4 0 0).cells (rU 4 0 0).slots A) (F0 m 186 ls []) := by
  have hx := hm.1
  have hb := hm.2.1
  have hown := hm.2.2.2.2.1
  have hts := hm.2.2.2.2.2.1
  intro f
  induction f with
  | zero => intro kq PA hf hk hPA; exfalso; omega
  | succ f ih =>
    intro kq PA hf hk hPA H locs ls hw hl
    have hbw : bsW WY b kq < 512 := bsW_lt hb8 bW9 kq
    rcases Nat.lt_or_ge kq (36 - ov) with hlt | hge
    · skip
      have e35 : nI (36 - kq) - 1 = nI (35 - kq) := by rw [show (1 : Int32) = nI 1 from rfl, pk_sub (by omega), show 36 - kq - 1 = 35 - kq by omega]
      rw [e35] at hl
      have hbw : bsW WY b kq < 512 := bsW_lt hb8 bW9 kq
      refine lv_iload_n hx hb d_Md_search_186 rfl (lv_at hl 0 rfl) ?_
      refine lv_aload_n hx hb d_Md_search_187 rfl (lv_at hl 2 rfl) ?_
      refine b_get (T := F_Md) hm hw 0 rfl rfl (fun w h => uw_of w (u_Md w h)) 13 (by decide) (uw_of _ k_621) rfl d_Md_search_188 ?_
      refine lv_icmp_lt (tgt := 237) hx hb d_Md_search_191 (by decide) (fun c_191_0 => ?_) (fun c_191_0 => ?_)
      · skip
        have h_191_0 : (35 - kq) < ov := ylt c_191_0 (by omega) (by omega)
        exfalso; omega
      · skip
        have h_191_0 : ov ≤ (35 - kq) := ygeN c_191_0 (by omega) (by omega)
        refine lv_aload_n hx hb d_Md_search_194 rfl (lv_at hl 2 rfl) ?_
        refine b_get (T := F_Md) hm hw 0 rfl rfl (fun w h => uw_of w (u_Md w h)) 30 (by decide) (uw_of _ k_638) rfl d_Md_search_195 ?_
        refine lv_iload_n hx hb d_Md_search_198 rfl (lv_at hl 0 rfl) ?_
        refine lv_aload_n hx hb d_Md_search_199 rfl (lv_at hl 2 rfl) ?_
        refine b_get (T := F_Md) hm hw 0 rfl rfl (fun w h => uw_of w (u_Md w h)) 23 (by decide) (uw_of _ k_631) rfl d_Md_search_200 ?_
        refine lv_sipush (v := nI 512) hx hb d_Md_search_203 (by decide) ?_
        refine lv_iload_n hx hb d_Md_search_206 rfl (lv_at hl 0 rfl) ?_
        refine lv_imul hx hb d_Md_search_207 ?_
        refine b_ti (pk_mul 512 (35 - kq)) ?_
        refine lv_iload_n hx hb d_Md_search_208 rfl (lv_at hl 1 rfl) ?_
        refine lv_iadd hx hb d_Md_search_209 ?_
        refine b_ti (nI_add (512 * (35 - kq)) (bsW WY b kq)) ?_
        have hwy := bW9 (512 * (35 - kq) + bsW WY b kq)
        refine b_iald (i := 512 * (35 - kq) + (bsW WY b kq)) hm hw 20 0 rfl rfl (by omega) (by omega) d_Md_search_210 ?_
        refine b_ti (show (fun j => nI (WY j)) (512 * (35 - kq) + (bsW WY b kq)) = nI (WY (512 * (35 - kq) + (bsW WY b kq))) from rfl) ?_
        refine lv_bipush (v := nI 8) hx hb d_Md_search_211 (by decide) ?_
        refine lv_irem hx hb d_Md_search_213 (by first | assumption | decide) ?_
        refine b_ti (pk_rem (a := WY (512 * (35 - kq) + (bsW WY b kq))) (d := 8) (by omega) (by omega) (by omega)) ?_
        refine b_iast (i := 35 - kq) hm hw 23 0 rfl rfl (by omega) (by omega) d_Md_search_214 (w1 := [(md, .inr (7, mdL za th cn ov sn kn fd (lN (CO b)) co tb)), (za 12, .inl (k 2, 108, .inl IO)), (za 9, .inl (k 0, 36, .inl OS)), (za 5, .inl (k 0, 3, .inl (fun j => nI (RW j)))), (za 6, .inl (k 0, 24, .inl RO)), (za 7, .inl (k 0, 24, .inl RH)), (za 8, .inl (k 0, 24, .inl RP)), (za 26, .inl (k 0, 3, .inl HN)), (za 27, .inl (k 0, 3, .inl PN)), (za 2, .inl (k 0, 3, .inl (fun j => nI (LR j)))), (za 3, .inl (k 0, 3, .inl (fun j => nI (LP j)))), (za 11, .inl (k 0, 36, .inl (fun j => nI (NE j)))), (za 10, .inl (k 0, 36, .inl (fun j => nI (PR j)))), (za 4, .inl (k 0, 3, .inl (fun j => nI (CE j)))), (za 17, .inl (k 2, 512, .inl (fun j => bI (TH j)))), (za 18, .inl (k 1, 512, .inr (.inl (fun j => lN (CO j))))), (za 19, .inl (k 0, 512, .inl (fun j => nI (RK j)))), (za 20, .inl (k 2, 512, .inl (fun j => bI (TX j)))), (za 21, .inl (k 1, 512, .inr (.inl (fun j => lN (CX j))))), (za 22, .inl (k 0, 512, .inl (fun j => nI (KX j)))), (za 23, .inl (k 0, 18432, .inl (fun j => nI (WY j)))), (za 24, .inl (k 2, 4096, .inl (fun j => bI (SE j)))), (za 25, .inl (k 0, 4096, .inl (fun j => nI (PL j)))), (za 30, .inl (k 0, 36, .inl (fun j => nI ((va_up PA (35 - kq) ((WY (512 * (35 - kq) + (bsW WY b kq))) % 8)) j))))]) (by rw [updN]; rfl) (fun H locs hw => ?_)
        refine lv_aload_n hx hb d_Md_search_215 rfl (lv_at hl 2 rfl) ?_
        refine b_get (T := F_Md) hm hw 0 rfl rfl (fun w h => uw_of w (u_Md w h)) 23 (by decide) (uw_of _ k_631) rfl d_Md_search_216 ?_
        refine lv_sipush (v := nI 512) hx hb d_Md_search_219 (by decide) ?_
        refine lv_iload_n hx hb d_Md_search_222 rfl (lv_at hl 0 rfl) ?_
        refine lv_imul hx hb d_Md_search_223 ?_
        refine b_ti (pk_mul 512 (35 - kq)) ?_
        refine lv_iload_n hx hb d_Md_search_224 rfl (lv_at hl 1 rfl) ?_
        refine lv_iadd hx hb d_Md_search_225 ?_
        refine b_ti (nI_add (512 * (35 - kq)) (bsW WY b kq)) ?_
        have hwy := bW9 (512 * (35 - kq) + bsW WY b kq)
        refine b_iald (i := 512 * (35 - kq) + (bsW WY b kq)) hm hw 20 0 rfl rfl (by omega) (by omega) d_Md_search_226 ?_
        refine b_ti (show (fun j => nI (WY j)) (512 * (35 - kq) + (bsW WY b kq)) = nI (WY (512 * (35 - kq) + (bsW WY b kq))) from rfl) ?_
        refine lv_bipush (v := nI 8) hx hb d_Md_search_227 (by decide) ?_
        refine lv_idiv hx hb d_Md_search_229 (by first | assumption | decide) ?_
        refine b_ti (pk_div (a := WY (512 * (35 - kq) + (bsW WY b kq))) (d := 8) (by omega) (by omega) (by omega)) ?_
        refine b_ti (y := nI (bsW WY b (kq + 1))) (rfl) ?_
        refine lv_istore_n (lv' := [(2, .int (nI (bsW WY b (kq + 1)))), (3, .int (nI (35 - kq))), (0, .ref md)]) hx hb d_Md_search_230 rfl hl (by decide) rfl (fun ls hl => ?_)
        refine lv_iinc (v := nI (36 - (kq + 1)) - 1) (lv' := [(3, .int (nI (36 - (kq + 1)) - 1)), (2, .int (nI (bsW WY b (kq + 1)))), (0, .ref md)]) hx hb d_Md_search_231 hl (k := 1) rfl (by rw [show 36 - (kq + 1) = 35 - kq by omega, Int32.sub_eq_add_neg]; rfl) (by decide) rfl (fun ls hl => ?_)
        refine lv_goto (tgt := 186) hx hb d_Md_search_234 (by decide) ?_
        have hbw : bsW WY b kq < 512 := bsW_lt hb8 bW9 kq
        exact ih (kq + 1) _ (by omega) (by omega) (by intro i hi; by_cases e : i = kq; rw [e, va_up_self]; rw [va_up_ne _ _ (by omega)]; exact hPA i (by omega)) H locs ls hw (lv_sub hl [0, 1, 2] rfl)
    · skip
      have hbw : bsW WY b kq < 512 := bsW_lt hb8 bW9 kq
      refine lv_iload_n hx hb d_Md_search_186 rfl (lv_at hl 0 rfl) ?_
      refine lv_aload_n hx hb d_Md_search_187 rfl (lv_at hl 2 rfl) ?_
      refine b_get (T := F_Md) hm hw 0 rfl rfl (fun w h => uw_of w (u_Md w h)) 13 (by decide) (uw_of _ k_621) rfl d_Md_search_188 ?_
      refine lv_icmp_lt (tgt := 237) hx hb d_Md_search_191 (by decide) (fun c_191_1 => ?_) (fun c_191_1 => ?_)
      · skip
        refine lv_iconst (v := nI 1) hx hb d_Md_search_237 (by decide) ?_
        have hk9 : kq = 36 - ov := by omega
        have hls := lsP_bk (b := b) hov (hk9 ▸ hPA) (36 - ov) (Nat.le_refl _)
        rw [Nat.sub_self] at hls
        obtain ⟨hB1, hB2⟩ := fw_best (fun st x => bhR_lt st x 3) hsn hF hbs
        exact b_zret (post := fun (r : Int32) (u : hmS × (Nat → Nat) × Int64) => srP (fun h => mayR (fun k => cnO (fun j => IO (36 * k + j)) h (gh h k)) LR LP cn (NE h)) (fun s x => bhR s x 3) (fun h s x => ctR (gp h) CE (PR h) s x cn) (2 ^ cn) ov sn r u.2.1 u.2.2 ∧ gbI (uKX u.1) (uCX u.1) (uWY u.1)) (w' := fun u => [(md, .inr (7, mdL za th cn ov sn kn fd u.2.2 co tb)), (za 12, .inl (k 2, 108, .inl IO)), (za 9, .inl (k 0, 36, .inl OS)), (za 5, .inl (k 0, 3, .inl (fun j => nI (RW j)))), (za 6, .inl (k 0, 24, .inl RO)), (za 7, .inl (k 0, 24, .inl RH)), (za 8, .inl (k 0, 24, .inl RP)), (za 26, .inl (k 0, 3, .inl (uHN u.1))), (za 27, .inl (k 0, 3, .inl (uPN u.1))), (za 2, .inl (k 0, 3, .inl (fun j => nI (LR j)))), (za 3, .inl (k 0, 3, .inl (fun j => nI (LP j)))), (za 11, .inl (k 0, 36, .inl (fun j => nI (NE j)))), (za 10, .inl (k 0, 36, .inl (fun j => nI (PR j)))), (za 4, .inl (k 0, 3, .inl (fun j => nI (CE j)))), (za 17, .inl (k 2, 512, .inl (fun j => bI ((uTH u.1) j)))), (za 18, .inl (k 1, 512, .inr (.inl (fun j => lN ((uCO u.1) j))))), (za 19, .inl (k 0, 512, .inl (fun j => nI ((uRK u.1) j)))), (za 20, .inl (k 2, 512, .inl (fun j => bI ((uTX u.1) j)))), (za 21, .inl (k 1, 512, .inr (.inl (fun j => lN ((uCX u.1) j))))), (za 22, .inl (k 0, 512, .inl (fun j => nI ((uKX u.1) j)))), (za 23, .inl (k 0, 18432, .inl (fun j => nI ((uWY u.1) j)))), (za 24, .inl (k 2, 4096, .inl (fun j => bI ((uSE u.1) j)))), (za 25, .inl (k 0, 4096, .inl (fun j => nI ((uPL u.1) j)))), (za 30, .inl (k 0, 36, .inl (fun j => nI (u.2.1 j))))]) ((HN, PN, TH, CO, RK, TX, CX, KX, WY, SE, PL), PA, lN (CO b)) hm hw (Or.inr rfl) (⟨Or.inl ⟨rfl, by rw [← hls]; exact hB1, by rw [← hls]; exact congrArg lN hB2.symm⟩, hGB⟩) d_Md_search_238
      · skip
        exact absurd ((hm1 (by omega) (by omega)).mpr (by omega)) c_191_1

set_option maxHeartbeats 4000000 in
set_option maxRecDepth 100000 in
theorem lp_Md_se3 {l : Launch} {D : va_G} {k : Nat → ClassId} {md : Nat} {za : Nat → Nat} {th cn ov sn kn fd : Nat} {cst : Int64} {co tb : Nat} {IO : Nat → Int32} {OS : Nat → Int32} {RW : Nat → Nat} {RO : Nat → Int32} {RH : Nat → Int32} {RP : Nat → Int32} {LR : Nat → Nat} {LP : Nat → Nat} {NE : Nat → Nat} {PR : Nat → Nat} {CE : Nat → Nat} {gh gp : Nat → Nat → Option Nat} {HN : Nat → Int32} {PN : Nat → Int32} {TH : Nat → Bool} {CO : Nat → Nat} {RK : Nat → Nat} {TX : Nat → Bool} {CX : Nat → Nat} {KX : Nat → Nat} {WY : Nat → Nat} {SE : Nat → Bool} {PL : Nat → Nat} {PA : Nat → Nat} (hc : cn ≤ 3) (hov : ov ≤ 36) (hsn : sn < 512) (hlr : ∀ j, LR j ≤ 4 ∧ LP j ≤ 4) (hN : ∀ j, NE j ≤ 100000) (hP : ∀ j, PR j ≤ 1000) (hC : ∀ j, CE j ≤ 100000) (hr8 : ∀ k, RW k ≤ 8) (hgb : ∀ h k v, gh h k = some v → v ≤ 100000) (hqb : ∀ h k v, gp h k = some v → v ≤ 100000) (hns : ∀ h k, gh h k = none ↔ gp h k = none) (hg : ∀ h, h < 36 → ∀ k, k < cn → gmR RW RO RH RP (OS h) k (gh h k) (gp h k)) (hGB : gbI KX CX WY) (hF : fwI (fun h => mayR (fun k => cnO (fun j => IO (36 * k + j)) h (gh h k)) LR LP cn (NE h)) (fun s x => bhR s x 3) (fun h s x => ctR (gp h) CE (PR h) s x cn) (2 ^ cn) ov sn (36 - ov) TH CO RK WY) (bC : ∀ s, s < 512 → TH s = true → CO s ≤ 10810800000) {p : Program} {e : Env} {s : State} {m : MethodId} {below : List Frame} {meth : Method} {c : Code} {A : Nat → Prop} (hm : bM p s m (([.ref md] : List Value).toArray) meth c "HeatMachinesModel" b_Md_search 4 (some .boolean) (uw y_Md_search b_Md_search 4 (some .boolean))) (hnm : meth.name = "search") :
    ∀ (f : Nat) (i : Nat) (b9 : Option Nat), 513 ≤ i + f → i ≤ 512 → bsI TH CO RK i b9 → ∀ (H : Heap) (locs : List Loc) (ls : Array Slot), bW (gU D k) A s H locs [(md, .inr (7, mdL za th cn ov sn kn fd cst co tb)), (za 12, .inl (k 2, 108, .inl IO)), (za 9, .inl (k 0, 36, .inl OS)), (za 5, .inl (k 0, 3, .inl (fun j => nI (RW j)))), (za 6, .inl (k 0, 24, .inl RO)), (za 7, .inl (k 0, 24, .inl RH)), (za 8, .inl (k 0, 24, .inl RP)), (za 26, .inl (k 0, 3, .inl HN)), (za 27, .inl (k 0, 3, .inl PN)), (za 2, .inl (k 0, 3, .inl (fun j => nI (LR j)))), (za 3, .inl (k 0, 3, .inl (fun j => nI (LP j)))), (za 11, .inl (k 0, 36, .inl (fun j => nI (NE j)))), (za 10, .inl (k 0, 36, .inl (fun j => nI (PR j)))), (za 4, .inl (k 0, 3, .inl (fun j => nI (CE j)))), (za 17, .inl (k 2, 512, .inl (fun j => bI (TH j)))), (za 18, .inl (k 1, 512, .inr (.inl (fun j => lN (CO j))))), (za 19, .inl (k 0, 512, .inl (fun j => nI (RK j)))), (za 20, .inl (k 2, 512, .inl (fun j => bI (TX j)))), (za 21, .inl (k 1, 512, .inr (.inl (fun j => lN (CX j))))), (za 22, .inl (k 0, 512, .inl (fun j => nI (KX j)))), (za 23, .inl (k 0, 18432, .inl (fun j => nI (WY j)))), (za 24, .inl (k 2, 4096, .inl (fun j => bI (SE j)))), (za 25, .inl (k 0, 4096, .inl (fun j => nI (PL j)))), (za 30, .inl (k 0, 36, .inl (fun j => nI (PA j))))] → lv_has ls 4 [(2, .int (nI i)), (1, .int (oI b9)), (0, .ref md)] → W p l e (rU 4 0 0) s m (([.ref md] : List Value).toArray) below meth c H locs 0 0 (MQ below (va_Qi (fun (r : Int32) (u : hmS × (Nat → Nat) × Int64) => srP (fun h => mayR (fun k => cnO (fun j => IO (36 * k + j)) h (gh h k)) LR LP cn (NE h)) (fun s x => bhR s x 3) (fun h s x => ctR (gp h) CE (PR h) s x cn) (2 ^ cn) ov sn r u.2.1 u.2.2 ∧ gbI (uKX u.1) (uCX u.1) (uWY u.1)) (fun u => bQ (gU D k) A ([(md, .inr (7, mdL za th cn ov sn kn fd u.2.2 co tb)), (za 12, .inl (k 2, 108, .inl IO)), (za 9, .inl (k 0, 36, .inl OS)), (za 5, .inl (k 0, 3, .inl (fun j => nI (RW j)))), (za 6, .inl (k 0, 24, .inl RO)), (za 7, .inl (k 0, 24, .inl RH)), (za 8, .inl (k 0, 24, .inl RP)), (za 26, .inl (k 0, 3, .inl (uHN u.1))), (za 27, .inl (k 0, 3, .inl (uPN u.1))), (za 2, .inl (k 0, 3, .inl (fun j => nI (LR j)))), (za 3, .inl (k 0, 3, .inl (fun j => nI (LP j)))), (za 11, .inl (k 0, 36, .inl (fun j => nI (NE j)))), (za 10, .inl (k 0, 36, .inl (fun j => nI (PR j)))), (za 4, .inl (k 0, 3, .inl (fun j => nI (CE j)))), (za 17, .inl (k 2, 512, .inl (fun j => bI ((uTH u.1) j)))), (za 18, .inl (k 1, 512, .inr (.inl (fun j => lN ((uCO u.1) j))))), (za 19, .inl (k 0, 512, .inl (fun j => nI ((uRK u.1) j)))), (za 20, .inl (k 2, 512, .inl (fun j => bI ((uTX u.1) j)))), (za 21, .inl (k 1, 512, .inr (.inl (fun j => lN ((uCX u.1) j))))), (za 22, .inl (k 0, 512, .inl (fun j => nI ((uKX u.1) j)))), (za 23, .inl (k 0, 18432, .inl (fun j => nI ((uWY u.1) j)))), (za 24, .inl (k 2, 4096, .inl (fun j => bI ((uSE u.1) j)))), (za 25, .inl (k 0, 4096, .inl (fun j => nI ((uPL u.1) j)))), (za 30, .inl (k 0, 36, .inl (fun j => nI (u.2.1 j))))])) A) (([.ref md] : List Value).toArray) s (rU 4 0 0).cells (rU 4 0 0).slots A) (F0 m 74 ls []) := by
  have hx := hm.1
  have hb := hm.2.1
  have hown := hm.2.2.2.2.1
  have hts := hm.2.2.2.2.2.1
  intro f
  induction f with
  | zero => intro i b9 hf hi hI; exfalso; omega
  | succ f ih =>
    intro i b9 hf hi hI H locs ls hw hl
    rcases o_cases b9 with hb0 | ⟨b, hb0⟩
    · skip
      rw [hb0] at hl hI
      have hl : lv_has ls 4 [(2, .int (nI i)), (1, .int (-1)), (0, .ref md)] := hl
      refine lv_iload_n hx hb d_Md_search_74 rfl (lv_at hl 0 rfl) ?_
      refine lv_sipush (v := nI 512) hx hb d_Md_search_75 (by decide) ?_
      refine lv_icmp_ge (tgt := 164) hx hb d_Md_search_78 (by decide) (fun c_78_0 => ?_) (fun c_78_0 => ?_)
      · skip
        have h_78_0 : 512 ≤ i := yge c_78_0 (by omega) (by omega)
        refine lv_iload_n hx hb d_Md_search_164 rfl (lv_at hl 1 rfl) ?_
        refine lv_iconst (v := (-1)) hx hb d_Md_search_165 (by decide) ?_
        refine lv_icmp_ne (tgt := 171) hx hb d_Md_search_166 (by decide) (fun c_166_1 => ?_) (fun c_166_1 => ?_)
        · skip
          exact absurd rfl c_166_1
        · skip
          refine lv_iconst (v := nI 0) hx hb d_Md_search_169 (by decide) ?_
          have e96 : i = 512 := by omega
          have hbs : bsI TH CO RK 512 none := e96 ▸ hI
          exact b_zret (post := fun (r : Int32) (u : hmS × (Nat → Nat) × Int64) => srP (fun h => mayR (fun k => cnO (fun j => IO (36 * k + j)) h (gh h k)) LR LP cn (NE h)) (fun s x => bhR s x 3) (fun h s x => ctR (gp h) CE (PR h) s x cn) (2 ^ cn) ov sn r u.2.1 u.2.2 ∧ gbI (uKX u.1) (uCX u.1) (uWY u.1)) (w' := fun u => [(md, .inr (7, mdL za th cn ov sn kn fd u.2.2 co tb)), (za 12, .inl (k 2, 108, .inl IO)), (za 9, .inl (k 0, 36, .inl OS)), (za 5, .inl (k 0, 3, .inl (fun j => nI (RW j)))), (za 6, .inl (k 0, 24, .inl RO)), (za 7, .inl (k 0, 24, .inl RH)), (za 8, .inl (k 0, 24, .inl RP)), (za 26, .inl (k 0, 3, .inl (uHN u.1))), (za 27, .inl (k 0, 3, .inl (uPN u.1))), (za 2, .inl (k 0, 3, .inl (fun j => nI (LR j)))), (za 3, .inl (k 0, 3, .inl (fun j => nI (LP j)))), (za 11, .inl (k 0, 36, .inl (fun j => nI (NE j)))), (za 10, .inl (k 0, 36, .inl (fun j => nI (PR j)))), (za 4, .inl (k 0, 3, .inl (fun j => nI (CE j)))), (za 17, .inl (k 2, 512, .inl (fun j => bI ((uTH u.1) j)))), (za 18, .inl (k 1, 512, .inr (.inl (fun j => lN ((uCO u.1) j))))), (za 19, .inl (k 0, 512, .inl (fun j => nI ((uRK u.1) j)))), (za 20, .inl (k 2, 512, .inl (fun j => bI ((uTX u.1) j)))), (za 21, .inl (k 1, 512, .inr (.inl (fun j => lN ((uCX u.1) j))))), (za 22, .inl (k 0, 512, .inl (fun j => nI ((uKX u.1) j)))), (za 23, .inl (k 0, 18432, .inl (fun j => nI ((uWY u.1) j)))), (za 24, .inl (k 2, 4096, .inl (fun j => bI ((uSE u.1) j)))), (za 25, .inl (k 0, 4096, .inl (fun j => nI ((uPL u.1) j)))), (za 30, .inl (k 0, 36, .inl (fun j => nI (u.2.1 j))))]) ((HN, PN, TH, CO, RK, TX, CX, KX, WY, SE, PL), PA, cst) hm hw (Or.inl rfl) (⟨Or.inr ⟨rfl, fw_none (fun st x => bhR_lt st x 3) hsn hF hbs⟩, hGB⟩) d_Md_search_170
      · skip
        have h_78_0 : i < 512 := yltN c_78_0 (by omega) (by omega)
        refine lv_aload_n hx hb d_Md_search_81 rfl (lv_at hl 2 rfl) ?_
        refine b_get (T := F_Md) hm hw 0 rfl rfl (fun w h => uw_of w (u_Md w h)) 17 (by decide) (uw_of _ k_625) rfl d_Md_search_82 ?_
        refine lv_iload_n hx hb d_Md_search_85 rfl (lv_at hl 0 rfl) ?_
        refine b_zald (i := i) hm hw 14 2 rfl rfl (by omega) (by omega) d_Md_search_86 ?_
        refine b_ti (show (fun j => bI (TH j)) i = bI (TH i) from rfl) ?_
        refine lv_if_eq (tgt := 146) hx hb d_Md_search_87 (by decide) (fun c_87_2 => ?_) (fun c_87_2 => ?_)
        · skip
          have h_87_2 : (TH i) = false := bI_0.mp c_87_2
          refine lv_iconst (v := nI 0) hx hb d_Md_search_146 (by decide) ?_
          refine lv_istore_n (lv' := [(3, .int (nI 0)), (2, .int (nI i)), (1, .int (-1)), (0, .ref md)]) hx hb d_Md_search_147 rfl hl (by decide) rfl (fun ls hl => ?_)
          refine lv_iload_n hx hb d_Md_search_148 rfl (lv_at hl 0 rfl) ?_
          refine lv_if_eq (tgt := 156) hx hb d_Md_search_149 (by decide) (fun c_149_3 => ?_) (fun c_149_3 => ?_)
          · skip
            refine lv_iload_n hx hb d_Md_search_156 rfl (lv_at hl 2 rfl) ?_
            refine lv_istore_n (lv' := [(1, .int (-1)), (3, .int (nI 0)), (2, .int (nI i)), (0, .ref md)]) hx hb d_Md_search_157 rfl hl (by decide) rfl (fun ls hl => ?_)
            refine lv_iinc (v := nI (i + 1)) (lv' := [(2, .int (nI (i + 1))), (1, .int (-1)), (3, .int (nI 0)), (0, .ref md)]) hx hb d_Md_search_158 hl (k := 2) rfl (nI_add i 1) (by decide) rfl (fun ls hl => ?_)
            refine lv_goto (tgt := 74) hx hb d_Md_search_161 (by decide) ?_
            exact ih (i + 1) none (by omega) (by omega) (by exact bsI_no hI (by assumption)) H locs ls hw (lv_sub hl [0, 1, 3] rfl)
          · skip
            exact absurd c_149_3 (by decide)
        · skip
          have h_87_2 : (TH i) = true := bI_t c_87_2
          have hth : TH i = true := by assumption
          have hiC := bC i (by omega) hth
          have hiR := hF.2.2 i (by omega)
          refine lv_iload_n hx hb d_Md_search_90 rfl (lv_at hl 1 rfl) ?_
          refine lv_iconst (v := (-1)) hx hb d_Md_search_91 (by decide) ?_
          refine lv_icmp_eq (tgt := 142) hx hb d_Md_search_92 (by decide) (fun c_92_4 => ?_) (fun c_92_4 => ?_)
          · skip
            refine lv_iconst (v := nI 1) hx hb d_Md_search_142 (by decide) ?_
            refine lv_goto (tgt := 147) hx hb d_Md_search_143 (by decide) ?_
            refine lv_istore_n (lv' := [(3, .int (nI 1)), (2, .int (nI i)), (1, .int (-1)), (0, .ref md)]) hx hb d_Md_search_147 rfl hl (by decide) rfl (fun ls hl => ?_)
            refine lv_iload_n hx hb d_Md_search_148 rfl (lv_at hl 0 rfl) ?_
            refine lv_if_eq (tgt := 156) hx hb d_Md_search_149 (by decide) (fun c_149_5 => ?_) (fun c_149_5 => ?_)
            · skip
              exact absurd c_149_5 (by decide)
            · skip
              refine lv_iload_n hx hb d_Md_search_152 rfl (lv_at hl 1 rfl) ?_
              refine lv_goto (tgt := 157) hx hb d_Md_search_153 (by decide) ?_
              refine lv_istore_n (lv' := [(1, .int (nI i)), (3, .int (nI 1)), (2, .int (nI i)), (0, .ref md)]) hx hb d_Md_search_157 rfl hl (by decide) rfl (fun ls hl => ?_)
              refine lv_iinc (v := nI (i + 1)) (lv' := [(2, .int (nI (i + 1))), (1, .int (nI i)), (3, .int (nI 1)), (0, .ref md)]) hx hb d_Md_search_158 hl (k := 2) rfl (nI_add i 1) (by decide) rfl (fun ls hl => ?_)
              refine lv_goto (tgt := 74) hx hb d_Md_search_161 (by decide) ?_
              exact ih (i + 1) (some i) (by omega) (by omega) (bsI_new hI hth (fun b8 q8 => by cases q8)) H locs ls hw (lv_sub hl [0, 1, 3] rfl)
          · skip
            exact absurd rfl c_92_4
    · skip
      rw [hb0] at hl hI
      have hl : lv_has ls 4 [(2, .int (nI i)), (1, .int (nI b)), (0, .ref md)] := hl
      have hb1 : b < 512 := by have := hI.1; omega
      have hbC := bC b hb1 hI.2.1
      have hbR := hF.2.2 b hb1
      refine lv_iload_n hx hb d_Md_search_74 rfl (lv_at hl 0 rfl) ?_
      refine lv_sipush (v := nI 512) hx hb d_Md_search_75 (by decide) ?_
      refine lv_icmp_ge (tgt := 164) hx hb d_Md_search_78 (by decide) (fun c_78_6 => ?_) (fun c_78_6 => ?_)
      · skip
        have h_78_6 : 512 ≤ i := yge c_78_6 (by omega) (by omega)
        refine lv_iload_n hx hb d_Md_search_164 rfl (lv_at hl 1 rfl) ?_
        refine lv_iconst (v := (-1)) hx hb d_Md_search_165 (by decide) ?_
        refine lv_icmp_ne (tgt := 171) hx hb d_Md_search_166 (by decide) (fun c_166_7 => ?_) (fun c_166_7 => ?_)
        · skip
          refine lv_aload_n hx hb d_Md_search_171 rfl (lv_at hl 2 rfl) ?_
          refine lv_aload_n hx hb d_Md_search_172 rfl (lv_at hl 2 rfl) ?_
          refine b_get (T := F_Md) hm hw 0 rfl rfl (fun w h => uw_of w (u_Md w h)) 18 (by decide) (uw_of _ k_626) rfl d_Md_search_173 ?_
          refine lv_iload_n hx hb d_Md_search_176 rfl (lv_at hl 1 rfl) ?_
          refine b_lald (i := b) hm hw 15 1 rfl rfl (by omega) (by omega) d_Md_search_177 ?_
          refine b_tl (show (fun j => lN (CO j)) b = lN (CO b) from rfl) ?_
          refine b_put (T := F_Md) hm hw 0 rfl rfl (fun w h => uw_of w (u_Md w h)) t_Md t_Md_ok n_Md 31 (by decide) (uw_of _ k_639) rfl rfl rfl (Nat.le_of_ble_eq_true rfl) d_Md_search_178 (w1 := [(md, .inr (7, mdL za th cn ov sn kn fd (lN (CO b)) co tb)), (za 12, .inl (k 2, 108, .inl IO)), (za 9, .inl (k 0, 36, .inl OS)), (za 5, .inl (k 0, 3, .inl (fun j => nI (RW j)))), (za 6, .inl (k 0, 24, .inl RO)), (za 7, .inl (k 0, 24, .inl RH)), (za 8, .inl (k 0, 24, .inl RP)), (za 26, .inl (k 0, 3, .inl HN)), (za 27, .inl (k 0, 3, .inl PN)), (za 2, .inl (k 0, 3, .inl (fun j => nI (LR j)))), (za 3, .inl (k 0, 3, .inl (fun j => nI (LP j)))), (za 11, .inl (k 0, 36, .inl (fun j => nI (NE j)))), (za 10, .inl (k 0, 36, .inl (fun j => nI (PR j)))), (za 4, .inl (k 0, 3, .inl (fun j => nI (CE j)))), (za 17, .inl (k 2, 512, .inl (fun j => bI (TH j)))), (za 18, .inl (k 1, 512, .inr (.inl (fun j => lN (CO j))))), (za 19, .inl (k 0, 512, .inl (fun j => nI (RK j)))), (za 20, .inl (k 2, 512, .inl (fun j => bI (TX j)))), (za 21, .inl (k 1, 512, .inr (.inl (fun j => lN (CX j))))), (za 22, .inl (k 0, 512, .inl (fun j => nI (KX j)))), (za 23, .inl (k 0, 18432, .inl (fun j => nI (WY j)))), (za 24, .inl (k 2, 4096, .inl (fun j => bI (SE j)))), (za 25, .inl (k 0, 4096, .inl (fun j => nI (PL j)))), (za 30, .inl (k 0, 36, .inl (fun j => nI (PA j))))]) rfl (fun H locs hw => ?_)
          refine lv_iload_n hx hb d_Md_search_181 rfl (lv_at hl 1 rfl) ?_
          refine lv_istore_n (lv' := [(2, .int (nI b)), (1, .int (nI b)), (0, .ref md)]) hx hb d_Md_search_182 rfl hl (by decide) rfl (fun ls hl => ?_)
          refine lv_bipush (v := nI 35) hx hb d_Md_search_183 (by decide) ?_
          refine lv_istore_n (lv' := [(3, .int (nI 35)), (2, .int (nI b)), (1, .int (nI b)), (0, .ref md)]) hx hb d_Md_search_185 rfl hl (by decide) rfl (fun ls hl => ?_)
          have e96 : i = 512 := by omega
          have hbs : bsI TH CO RK 512 (some b) := e96 ▸ hI
          exact lp_Md_se4 (cst := cst) (gh := gh) (gp := gp) hc hov hsn hlr hN hP hC hr8 hgb hqb hns hg hb1 hGB.2.2 hGB hF hbs hm hnm (36 - ov + 1) 0 _ (by omega) (by omega) (fun i h => absurd h (by omega)) _ _ ls hw (lv_sub hl [0, 1, 3] rfl)
        · skip
          exact absurd c_166_7 (nI_nm1 (by omega))
      · skip
        have h_78_6 : i < 512 := yltN c_78_6 (by omega) (by omega)
        refine lv_aload_n hx hb d_Md_search_81 rfl (lv_at hl 2 rfl) ?_
        refine b_get (T := F_Md) hm hw 0 rfl rfl (fun w h => uw_of w (u_Md w h)) 17 (by decide) (uw_of _ k_625) rfl d_Md_search_82 ?_
        refine lv_iload_n hx hb d_Md_search_85 rfl (lv_at hl 0 rfl) ?_
        refine b_zald (i := i) hm hw 14 2 rfl rfl (by omega) (by omega) d_Md_search_86 ?_
        refine b_ti (show (fun j => bI (TH j)) i = bI (TH i) from rfl) ?_
        refine lv_if_eq (tgt := 146) hx hb d_Md_search_87 (by decide) (fun c_87_8 => ?_) (fun c_87_8 => ?_)
        · skip
          have h_87_8 : (TH i) = false := bI_0.mp c_87_8
          refine lv_iconst (v := nI 0) hx hb d_Md_search_146 (by decide) ?_
          refine lv_istore_n (lv' := [(3, .int (nI 0)), (2, .int (nI i)), (1, .int (nI b)), (0, .ref md)]) hx hb d_Md_search_147 rfl hl (by decide) rfl (fun ls hl => ?_)
          refine lv_iload_n hx hb d_Md_search_148 rfl (lv_at hl 0 rfl) ?_
          refine lv_if_eq (tgt := 156) hx hb d_Md_search_149 (by decide) (fun c_149_9 => ?_) (fun c_149_9 => ?_)
          · skip
            refine lv_iload_n hx hb d_Md_search_156 rfl (lv_at hl 2 rfl) ?_
            refine lv_istore_n (lv' := [(1, .int (nI b)), (3, .int (nI 0)), (2, .int (nI i)), (0, .ref md)]) hx hb d_Md_search_157 rfl hl (by decide) rfl (fun ls hl => ?_)
            refine lv_iinc (v := nI (i + 1)) (lv' := [(2, .int (nI (i + 1))), (1, .int (nI b)), (3, .int (nI 0)), (0, .ref md)]) hx hb d_Md_search_158 hl (k := 2) rfl (nI_add i 1) (by decide) rfl (fun ls hl => ?_)
            refine lv_goto (tgt := 74) hx hb d_Md_search_161 (by decide) ?_
            exact ih (i + 1) (some b) (by omega) (by omega) (by first | exact bsI_no hI (by assumption) | exact bsI_keep hI (by omega)) H locs ls hw (lv_sub hl [0, 1, 3] rfl)
          · skip
            exact absurd c_149_9 (by decide)
        · skip
          have h_87_8 : (TH i) = true := bI_t c_87_8
          have hth : TH i = true := by assumption
          have hiC := bC i (by omega) hth
          have hiR := hF.2.2 i (by omega)
          refine lv_iload_n hx hb d_Md_search_90 rfl (lv_at hl 1 rfl) ?_
          refine lv_iconst (v := (-1)) hx hb d_Md_search_91 (by decide) ?_
          refine lv_icmp_eq (tgt := 142) hx hb d_Md_search_92 (by decide) (fun c_92_10 => ?_) (fun c_92_10 => ?_)
          · skip
            exact absurd c_92_10 (nI_nm1 (by omega))
          · skip
            refine lv_aload_n hx hb d_Md_search_95 rfl (lv_at hl 2 rfl) ?_
            refine b_get (T := F_Md) hm hw 0 rfl rfl (fun w h => uw_of w (u_Md w h)) 18 (by decide) (uw_of _ k_626) rfl d_Md_search_96 ?_
            refine lv_iload_n hx hb d_Md_search_99 rfl (lv_at hl 0 rfl) ?_
            refine b_lald (i := i) hm hw 15 1 rfl rfl (by omega) (by omega) d_Md_search_100 ?_
            refine b_tl (show (fun j => lN (CO j)) i = lN (CO i) from rfl) ?_
            refine lv_aload_n hx hb d_Md_search_101 rfl (lv_at hl 2 rfl) ?_
            refine b_get (T := F_Md) hm hw 0 rfl rfl (fun w h => uw_of w (u_Md w h)) 18 (by decide) (uw_of _ k_626) rfl d_Md_search_102 ?_
            refine lv_iload_n hx hb d_Md_search_105 rfl (lv_at hl 1 rfl) ?_
            refine b_lald (i := b) hm hw 15 1 rfl rfl (by omega) (by omega) d_Md_search_106 ?_
            refine b_tl (show (fun j => lN (CO j)) b = lN (CO b) from rfl) ?_
            refine W.lcmp hx hb d_Md_search_107 ?_
            refine lv_if_lt (tgt := 142) hx hb d_Md_search_108 (by decide) (fun c_108_11 => ?_) (fun c_108_11 => ?_)
            · skip
              have h_108_11 : (CO i) < (CO b) := cq_lt c_108_11 (by omega) (by omega)
              refine lv_iconst (v := nI 1) hx hb d_Md_search_142 (by decide) ?_
              refine lv_goto (tgt := 147) hx hb d_Md_search_143 (by decide) ?_
              refine lv_istore_n (lv' := [(3, .int (nI 1)), (2, .int (nI i)), (1, .int (nI b)), (0, .ref md)]) hx hb d_Md_search_147 rfl hl (by decide) rfl (fun ls hl => ?_)
              refine lv_iload_n hx hb d_Md_search_148 rfl (lv_at hl 0 rfl) ?_
              refine lv_if_eq (tgt := 156) hx hb d_Md_search_149 (by decide) (fun c_149_12 => ?_) (fun c_149_12 => ?_)
              · skip
                exact absurd c_149_12 (by decide)
              · skip
                refine lv_iload_n hx hb d_Md_search_152 rfl (lv_at hl 1 rfl) ?_
                refine lv_goto (tgt := 157) hx hb d_Md_search_153 (by decide) ?_
                refine lv_istore_n (lv' := [(1, .int (nI i)), (3, .int (nI 1)), (2, .int (nI i)), (0, .ref md)]) hx hb d_Md_search_157 rfl hl (by decide) rfl (fun ls hl => ?_)
                refine lv_iinc (v := nI (i + 1)) (lv' := [(2, .int (nI (i + 1))), (1, .int (nI i)), (3, .int (nI 1)), (0, .ref md)]) hx hb d_Md_search_158 hl (k := 2) rfl (nI_add i 1) (by decide) rfl (fun ls hl => ?_)
                refine lv_goto (tgt := 74) hx hb d_Md_search_161 (by decide) ?_
                exact ih (i + 1) (some i) (by omega) (by omega) (bsI_new hI hth (fun b8 q8 => by obtain rfl : b = b8 := Option.some.inj q8; first | exact Or.inl (by assumption) | exact Or.inr ⟨by assumption, by assumption⟩)) H locs ls hw (lv_sub hl [0, 1, 3] rfl)
            · skip
              have h_108_11 : (CO b) ≤ (CO i) := cq_ltN c_108_11 (by omega) (by omega)
              refine lv_aload_n hx hb d_Md_search_111 rfl (lv_at hl 2 rfl) ?_
              refine b_get (T := F_Md) hm hw 0 rfl rfl (fun w h => uw_of w (u_Md w h)) 18 (by decide) (uw_of _ k_626) rfl d_Md_search_112 ?_
              refine lv_iload_n hx hb d_Md_search_115 rfl (lv_at hl 0 rfl) ?_
              refine b_lald (i := i) hm hw 15 1 rfl rfl (by omega) (by omega) d_Md_search_116 ?_
              refine b_tl (show (fun j => lN (CO j)) i = lN (CO i) from rfl) ?_
              refine lv_aload_n hx hb d_Md_search_117 rfl (lv_at hl 2 rfl) ?_
              refine b_get (T := F_Md) hm hw 0 rfl rfl (fun w h => uw_of w (u_Md w h)) 18 (by decide) (uw_of _ k_626) rfl d_Md_search_118 ?_
              refine lv_iload_n hx hb d_Md_search_121 rfl (lv_at hl 1 rfl) ?_
              refine b_lald (i := b) hm hw 15 1 rfl rfl (by omega) (by omega) d_Md_search_122 ?_
              refine b_tl (show (fun j => lN (CO j)) b = lN (CO b) from rfl) ?_
              refine W.lcmp hx hb d_Md_search_123 ?_
              refine lv_if_ne (tgt := 146) hx hb d_Md_search_124 (by decide) (fun c_124_13 => ?_) (fun c_124_13 => ?_)
              · skip
                have h_124_13 : (CO i) ≠ (CO b) := cq_ne c_124_13 (by omega) (by omega)
                refine lv_iconst (v := nI 0) hx hb d_Md_search_146 (by decide) ?_
                refine lv_istore_n (lv' := [(3, .int (nI 0)), (2, .int (nI i)), (1, .int (nI b)), (0, .ref md)]) hx hb d_Md_search_147 rfl hl (by decide) rfl (fun ls hl => ?_)
                refine lv_iload_n hx hb d_Md_search_148 rfl (lv_at hl 0 rfl) ?_
                refine lv_if_eq (tgt := 156) hx hb d_Md_search_149 (by decide) (fun c_149_14 => ?_) (fun c_149_14 => ?_)
                · skip
                  refine lv_iload_n hx hb d_Md_search_156 rfl (lv_at hl 2 rfl) ?_
                  refine lv_istore_n (lv' := [(1, .int (nI b)), (3, .int (nI 0)), (2, .int (nI i)), (0, .ref md)]) hx hb d_Md_search_157 rfl hl (by decide) rfl (fun ls hl => ?_)
                  refine lv_iinc (v := nI (i + 1)) (lv' := [(2, .int (nI (i + 1))), (1, .int (nI b)), (3, .int (nI 0)), (0, .ref md)]) hx hb d_Md_search_158 hl (k := 2) rfl (nI_add i 1) (by decide) rfl (fun ls hl => ?_)
                  refine lv_goto (tgt := 74) hx hb d_Md_search_161 (by decide) ?_
                  exact ih (i + 1) (some b) (by omega) (by omega) (by first | exact bsI_no hI (by assumption) | exact bsI_keep hI (by omega)) H locs ls hw (lv_sub hl [0, 1, 3] rfl)
                · skip
                  exact absurd c_149_14 (by decide)
              · skip
                have h_124_13 : (CO i) = (CO b) := cq_neN c_124_13 (by omega) (by omega)
                refine lv_aload_n hx hb d_Md_search_127 rfl (lv_at hl 2 rfl) ?_
                refine b_get (T := F_Md) hm hw 0 rfl rfl (fun w h => uw_of w (u_Md w h)) 19 (by decide) (uw_of _ k_627) rfl d_Md_search_128 ?_
                refine lv_iload_n hx hb d_Md_search_131 rfl (lv_at hl 0 rfl) ?_
                refine b_iald (i := i) hm hw 16 0 rfl rfl (by omega) (by omega) d_Md_search_132 ?_
                refine b_ti (show (fun j => nI (RK j)) i = nI (RK i) from rfl) ?_
                refine lv_aload_n hx hb d_Md_search_133 rfl (lv_at hl 2 rfl) ?_
                refine b_get (T := F_Md) hm hw 0 rfl rfl (fun w h => uw_of w (u_Md w h)) 19 (by decide) (uw_of _ k_627) rfl d_Md_search_134 ?_
                refine lv_iload_n hx hb d_Md_search_137 rfl (lv_at hl 1 rfl) ?_
                refine b_iald (i := b) hm hw 16 0 rfl rfl (by omega) (by omega) d_Md_search_138 ?_
                refine b_ti (show (fun j => nI (RK j)) b = nI (RK b) from rfl) ?_
                refine lv_icmp_ge (tgt := 146) hx hb d_Md_search_139 (by decide) (fun c_139_15 => ?_) (fun c_139_15 => ?_)
                · skip
                  have h_139_15 : (RK b) ≤ (RK i) := yge c_139_15 (by omega) (by omega)
                  refine lv_iconst (v := nI 0) hx hb d_Md_search_146 (by decide) ?_
                  refine lv_istore_n (lv' := [(3, .int (nI 0)), (2, .int (nI i)), (1, .int (nI b)), (0, .ref md)]) hx hb d_Md_search_147 rfl hl (by decide) rfl (fun ls hl => ?_)
                  refine lv_iload_n hx hb d_Md_search_148 rfl (lv_at hl 0 rfl) ?_
                  refine lv_if_eq (tgt := 156) hx hb d_Md_search_149 (by decide) (fun c_149_16 => ?_) (fun c_149_16 => ?_)
                  · skip
                    refine lv_iload_n hx hb d_Md_search_156 rfl (lv_at hl 2 rfl) ?_
                    refine lv_istore_n (lv' := [(1, .int (nI b)), (3, .int (nI 0)), (2, .int (nI i)), (0, .ref md)]) hx hb d_Md_search_157 rfl hl (by decide) rfl (fun ls hl => ?_)
                    refine lv_iinc (v := nI (i + 1)) (lv' := [(2, .int (nI (i + 1))), (1, .int (nI b)), (3, .int (nI 0)), (0, .ref md)]) hx hb d_Md_search_158 hl (k := 2) rfl (nI_add i 1) (by decide) rfl (fun ls hl => ?_)
                    refine lv_goto (tgt := 74) hx hb d_Md_search_161 (by decide) ?_
                    exact ih (i + 1) (some b) (by omega) (by omega) (by first | exact bsI_no hI (by assumption) | exact bsI_keep hI (by omega)) H locs ls hw (lv_sub hl [0, 1, 3] rfl)
                  · skip
                    exact absurd c_149_16 (by decide)
                · skip
                  have h_139_15 : (RK i) < (RK b) := yltN c_139_15 (by omega) (by omega)
                  refine lv_iconst (v := nI 1) hx hb d_Md_search_142 (by decide) ?_
                  refine lv_goto (tgt := 147) hx hb d_Md_search_143 (by decide) ?_
                  refine lv_istore_n (lv' := [(3, .int (nI 1)), (2, .int (nI i)), (1, .int (nI b)), (0, .ref md)]) hx hb d_Md_search_147 rfl hl (by decide) rfl (fun ls hl => ?_)
                  refine lv_iload_n hx hb d_Md_search_148 rfl (lv_at hl 0 rfl) ?_
                  refine lv_if_eq (tgt := 156) hx hb d_Md_search_149 (by decide) (fun c_149_17 => ?_) (fun c_149_17 => ?_)
                  · skip
                    exact absurd c_149_17 (by decide)
                  · skip
                    refine lv_iload_n hx hb d_Md_search_152 rfl (lv_at hl 1 rfl) ?_
                    refine lv_goto (tgt := 157) hx hb d_Md_search_153 (by decide) ?_
                    refine lv_istore_n (lv' := [(1, .int (nI i)), (3, .int (nI 1)), (2, .int (nI i)), (0, .ref md)]) hx hb d_Md_search_157 rfl hl (by decide) rfl (fun ls hl => ?_)
                    refine lv_iinc (v := nI (i + 1)) (lv' := [(2, .int (nI (i + 1))), (1, .int (nI i)), (3, .int (nI 1)), (0, .ref md)]) hx hb d_Md_search_158 hl (k := 2) rfl (nI_add i 1) (by decide) rfl (fun ls hl => ?_)
                    refine lv_goto (tgt := 74) hx hb d_Md_search_161 (by decide) ?_
                    exact ih (i + 1) (some i) (by omega) (by omega) (bsI_new hI hth (fun b8 q8 => by obtain rfl : b = b8 := Option.some.inj q8; first | exact Or.inl (by assumption) | exact Or.inr ⟨by assumption, by assumption⟩)) H locs ls hw (lv_sub hl [0, 1, 3] rfl)

set_option maxHeartbeats 4000000 in
set_option maxRecDepth 100000 in
theorem lp_Md_se2 {l : Launch} {D : va_G} {k : Nat → ClassId} {md : Nat} {za : Nat → Nat} {th cn ov sn kn fd : Nat} {cst : Int64} {co tb : Nat} {IO : Nat → Int32} {OS : Nat → Int32} {RW : Nat → Nat} {RO : Nat → Int32} {RH : Nat → Int32} {RP : Nat → Int32} {LR : Nat → Nat} {LP : Nat → Nat} {NE : Nat → Nat} {PR : Nat → Nat} {CE : Nat → Nat} {gh gp : Nat → Nat → Option Nat} {PA : Nat → Nat} (hc : cn ≤ 3) (hov : ov ≤ 36) (hsn : sn < 512) (hlr : ∀ j, LR j ≤ 4 ∧ LP j ≤ 4) (hN : ∀ j, NE j ≤ 100000) (hP : ∀ j, PR j ≤ 1000) (hC : ∀ j, CE j ≤ 100000) (hr8 : ∀ k, RW k ≤ 8) (hgb : ∀ h k v, gh h k = some v → v ≤ 100000) (hqb : ∀ h k v, gp h k = some v → v ≤ 100000) (hns : ∀ h k, gh h k = none ↔ gp h k = none) (hg : ∀ h, h < 36 → ∀ k, k < cn → gmR RW RO RH RP (OS h) k (gh h k) (gp h k)) {p : Program} {e : Env} {s : State} {m : MethodId} {below : List Frame} {meth : Method} {c : Code} {A : Nat → Prop} (hm : bM p s m (([.ref md] : List Value).toArray) meth c "HeatMachinesModel" b_Md_search 4 (some .boolean) (uw y_Md_search b_Md_search 4 (some .boolean))) (hnm : meth.name = "search") :
    ∀ (f : Nat) (t : Nat) (v : hmS), 37 ≤ ov + t + f → ov + t ≤ 36 → fwI (fun h => mayR (fun k => cnO (fun j => IO (36 * k + j)) h (gh h k)) LR LP cn (NE h)) (fun s x => bhR s x 3) (fun h s x => ctR (gp h) CE (PR h) s x cn) (2 ^ cn) ov sn t (uTH v) (uCO v) (uRK v) (uWY v) → gbI (uKX v) (uCX v) (uWY v) → ∀ (H : Heap) (locs : List Loc) (ls : Array Slot), bW (gU D k) A s H locs [(md, .inr (7, mdL za th cn ov sn kn fd cst co tb)), (za 12, .inl (k 2, 108, .inl IO)), (za 9, .inl (k 0, 36, .inl OS)), (za 5, .inl (k 0, 3, .inl (fun j => nI (RW j)))), (za 6, .inl (k 0, 24, .inl RO)), (za 7, .inl (k 0, 24, .inl RH)), (za 8, .inl (k 0, 24, .inl RP)), (za 26, .inl (k 0, 3, .inl (uHN v))), (za 27, .inl (k 0, 3, .inl (uPN v))), (za 2, .inl (k 0, 3, .inl (fun j => nI (LR j)))), (za 3, .inl (k 0, 3, .inl (fun j => nI (LP j)))), (za 11, .inl (k 0, 36, .inl (fun j => nI (NE j)))), (za 10, .inl (k 0, 36, .inl (fun j => nI (PR j)))), (za 4, .inl (k 0, 3, .inl (fun j => nI (CE j)))), (za 17, .inl (k 2, 512, .inl (fun j => bI ((uTH v) j)))), (za 18, .inl (k 1, 512, .inr (.inl (fun j => lN ((uCO v) j))))), (za 19, .inl (k 0, 512, .inl (fun j => nI ((uRK v) j)))), (za 20, .inl (k 2, 512, .inl (fun j => bI ((uTX v) j)))), (za 21, .inl (k 1, 512, .inr (.inl (fun j => lN ((uCX v) j))))), (za 22, .inl (k 0, 512, .inl (fun j => nI ((uKX v) j)))), (za 23, .inl (k 0, 18432, .inl (fun j => nI ((uWY v) j)))), (za 24, .inl (k 2, 4096, .inl (fun j => bI ((uSE v) j)))), (za 25, .inl (k 0, 4096, .inl (fun j => nI ((uPL v) j)))), (za 30, .inl (k 0, 36, .inl (fun j => nI (PA j))))] → lv_has ls 4 [(1, .int (nI (ov + t))), (0, .ref md)] → W p l e (rU 4 0 0) s m (([.ref md] : List Value).toArray) below meth c H locs 0 0 (MQ below (va_Qi (fun (r : Int32) (u : hmS × (Nat → Nat) × Int64) => srP (fun h => mayR (fun k => cnO (fun j => IO (36 * k + j)) h (gh h k)) LR LP cn (NE h)) (fun s x => bhR s x 3) (fun h s x => ctR (gp h) CE (PR h) s x cn) (2 ^ cn) ov sn r u.2.1 u.2.2 ∧ gbI (uKX u.1) (uCX u.1) (uWY u.1)) (fun u => bQ (gU D k) A ([(md, .inr (7, mdL za th cn ov sn kn fd u.2.2 co tb)), (za 12, .inl (k 2, 108, .inl IO)), (za 9, .inl (k 0, 36, .inl OS)), (za 5, .inl (k 0, 3, .inl (fun j => nI (RW j)))), (za 6, .inl (k 0, 24, .inl RO)), (za 7, .inl (k 0, 24, .inl RH)), (za 8, .inl (k 0, 24, .inl RP)), (za 26, .inl (k 0, 3, .inl (uHN u.1))), (za 27, .inl (k 0, 3, .inl (uPN u.1))), (za 2, .inl (k 0, 3, .inl (fun j => nI (LR j)))), (za 3, .inl (k 0, 3, .inl (fun j => nI (LP j)))), (za 11, .inl (k 0, 36, .inl (fun j => nI (NE j)))), (za 10, .inl (k 0, 36, .inl (fun j => nI (PR j)))), (za 4, .inl (k 0, 3, .inl (fun j => nI (CE j)))), (za 17, .inl (k 2, 512, .inl (fun j => bI ((uTH u.1) j)))), (za 18, .inl (k 1, 512, .inr (.inl (fun j => lN ((uCO u.1) j))))), (za 19, .inl (k 0, 512, .inl (fun j => nI ((uRK u.1) j)))), (za 20, .inl (k 2, 512, .inl (fun j => bI ((uTX u.1) j)))), (za 21, .inl (k 1, 512, .inr (.inl (fun j => lN ((uCX u.1) j))))), (za 22, .inl (k 0, 512, .inl (fun j => nI ((uKX u.1) j)))), (za 23, .inl (k 0, 18432, .inl (fun j => nI ((uWY u.1) j)))), (za 24, .inl (k 2, 4096, .inl (fun j => bI ((uSE u.1) j)))), (za 25, .inl (k 0, 4096, .inl (fun j => nI ((uPL u.1) j)))), (za 30, .inl (k 0, 36, .inl (fun j => nI (u.2.1 j))))])) A) (([.ref md] : List Value).toArray) s (rU 4 0 0).cells (rU 4 0 0).slots A) (F0 m 53 ls []) := by
  have hx := hm.1
  have hb := hm.2.1
  have hown := hm.2.2.2.2.1
  have hts := hm.2.2.2.2.2.1
  intro f
  induction f with
  | zero => intro t v hf ht hF hGB; exfalso; omega
  | succ f ih =>
    intro t v hf ht hF hGB H locs ls hw hl
    refine lv_iload_n hx hb d_Md_search_53 rfl (lv_at hl 0 rfl) ?_
    refine lv_bipush (v := nI 36) hx hb d_Md_search_54 (by decide) ?_
    refine lv_icmp_ge (tgt := 70) hx hb d_Md_search_56 (by decide) (fun c_56_0 => ?_) (fun c_56_0 => ?_)
    · skip
      have h_56_0 : 36 ≤ (ov + t) := yge c_56_0 (by omega) (by omega)
      refine lv_iconst (v := (-1)) hx hb d_Md_search_70 (by decide) ?_
      refine lv_istore_n (lv' := [(1, .int (-1)), (0, .ref md)]) hx hb d_Md_search_71 rfl hl (by decide) rfl (fun ls hl => ?_)
      refine lv_iconst (v := nI 0) hx hb d_Md_search_72 (by decide) ?_
      refine lv_istore_n (lv' := [(2, .int (nI 0)), (1, .int (-1)), (0, .ref md)]) hx hb d_Md_search_73 rfl hl (by decide) rfl (fun ls hl => ?_)
      have e96 : t = 36 - ov := by omega
      have hF : fwI (fun h => mayR (fun k => cnO (fun j => IO (36 * k + j)) h (gh h k)) LR LP cn (NE h)) (fun s x => bhR s x 3) (fun h s x => ctR (gp h) CE (PR h) s x cn) (2 ^ cn) ov sn (36 - ov) (uTH v) (uCO v) (uRK v) (uWY v) := e96 ▸ hF
      exact lp_Md_se3 (gh := gh) (gp := gp) hc hov hsn hlr hN hP hC hr8 hgb hqb hns hg hGB hF (fun j hj hT => Nat.le_trans (fw_co hF (fun h st x => ctR_le2 hc (hqb h) hC (hP h)) j hj hT) (by omega)) hm hnm 513 0 none (by omega) (by omega) (fun s h => absurd h (by omega)) _ _ ls hw (lv_sub hl [0, 1, 2] rfl)
    · skip
      have h_56_0 : (ov + t) < 36 := yltN c_56_0 (by omega) (by omega)
      refine lv_aload_n hx hb d_Md_search_59 rfl (lv_at hl 1 rfl) ?_
      refine lv_iload_n hx hb d_Md_search_60 rfl (lv_at hl 0 rfl) ?_
      have bC0 : ∀ j, j < 512 → uTH v j = true → uCO v j ≤ 10510500000 := fun j hj hT => Nat.le_trans (fw_co hF (fun h st x => ctR_le2 hc (hqb h) hC (hP h)) j hj hT) (by omega)
      refine b_gov (wr := [(za 30, .inl (k 0, 36, .inl (fun j => nI (PA j))))]) (b_runV (wc := [(md, .inr (7, mdL za th cn ov sn kn fd cst co tb)), (za 12, .inl (k 2, 108, .inl IO)), (za 9, .inl (k 0, 36, .inl OS)), (za 5, .inl (k 0, 3, .inl (fun j => nI (RW j)))), (za 6, .inl (k 0, 24, .inl RO)), (za 7, .inl (k 0, 24, .inl RH)), (za 8, .inl (k 0, 24, .inl RP)), (za 26, .inl (k 0, 3, .inl (uHN v))), (za 27, .inl (k 0, 3, .inl (uPN v))), (za 2, .inl (k 0, 3, .inl (fun j => nI (LR j)))), (za 3, .inl (k 0, 3, .inl (fun j => nI (LP j)))), (za 11, .inl (k 0, 36, .inl (fun j => nI (NE j)))), (za 10, .inl (k 0, 36, .inl (fun j => nI (PR j)))), (za 4, .inl (k 0, 3, .inl (fun j => nI (CE j)))), (za 17, .inl (k 2, 512, .inl (fun j => bI ((uTH v) j)))), (za 18, .inl (k 1, 512, .inr (.inl (fun j => lN ((uCO v) j))))), (za 19, .inl (k 0, 512, .inl (fun j => nI ((uRK v) j)))), (za 20, .inl (k 2, 512, .inl (fun j => bI ((uTX v) j)))), (za 21, .inl (k 1, 512, .inr (.inl (fun j => lN ((uCX v) j))))), (za 22, .inl (k 0, 512, .inl (fun j => nI ((uKX v) j)))), (za 23, .inl (k 0, 18432, .inl (fun j => nI ((uWY v) j)))), (za 24, .inl (k 2, 4096, .inl (fun j => bI ((uSE v) j)))), (za 25, .inl (k 0, 4096, .inl (fun j => nI ((uPL v) j))))]) (As := [.int (nI (ov + t))]) (rest := []) (q0 := 0) hm hw (cwV 1 hts (gV uw_of k_777 k_774 k_776 (mp 17 rfl rfl) k_9) rfl rfl rfl (by decide +kernel) ⟨by decide, by decide⟩) (c_Md_hourMore l D k _ md za th cn ov sn kn fd cst co tb IO OS RW RO RH RP LR LP NE PR CE (ov + t) (gh (ov + t)) (gp (ov + t)) (uTH v) (uCO v) (uRK v) (uWY v) (uHN v) (uPN v) (uTX v) (uCX v) (uKX v) (uSE v) (uPL v) hc (by omega) hlr hN hP hC (hgb (ov + t)) (hqb (ov + t)) (hns (ov + t)) bC0 hF.2.2 hr8 (hg (ov + t) (by omega)) hGB.1 hGB.2.1 hGB.2.2) [0, 1, 2, 3, 4, 5, 6, 7, 8, 9, 10, 11, 12, 13, 14, 15, 16, 17, 18, 19, 20, 21, 22] (by decide) rfl rfl rfl rfl hl.1 rfl (Nat.le_of_ble_eq_true rfl) d_Md_search_61 ⟨by decide, by decide⟩) hw [0, 1, 2, 3, 4, 5, 6, 7, 8, 9, 10, 11, 12, 13, 14, 15, 16, 17, 18, 19, 20, 21, 22] [23] rfl rfl (by decide) (by decide) (fun u9 H locs hp hw => ?_)
      have hw : bW (gU D k) A s H locs [(md, .inr (7, mdL za th cn ov sn kn fd cst co tb)), (za 12, .inl (k 2, 108, .inl IO)), (za 9, .inl (k 0, 36, .inl OS)), (za 5, .inl (k 0, 3, .inl (fun j => nI (RW j)))), (za 6, .inl (k 0, 24, .inl RO)), (za 7, .inl (k 0, 24, .inl RH)), (za 8, .inl (k 0, 24, .inl RP)), (za 26, .inl (k 0, 3, .inl (uHN u9))), (za 27, .inl (k 0, 3, .inl (uPN u9))), (za 2, .inl (k 0, 3, .inl (fun j => nI (LR j)))), (za 3, .inl (k 0, 3, .inl (fun j => nI (LP j)))), (za 11, .inl (k 0, 36, .inl (fun j => nI (NE j)))), (za 10, .inl (k 0, 36, .inl (fun j => nI (PR j)))), (za 4, .inl (k 0, 3, .inl (fun j => nI (CE j)))), (za 17, .inl (k 2, 512, .inl (fun j => bI ((uTH u9) j)))), (za 18, .inl (k 1, 512, .inr (.inl (fun j => lN ((uCO u9) j))))), (za 19, .inl (k 0, 512, .inl (fun j => nI ((uRK u9) j)))), (za 20, .inl (k 2, 512, .inl (fun j => bI ((uTX u9) j)))), (za 21, .inl (k 1, 512, .inr (.inl (fun j => lN ((uCX u9) j))))), (za 22, .inl (k 0, 512, .inl (fun j => nI ((uKX u9) j)))), (za 23, .inl (k 0, 18432, .inl (fun j => nI ((uWY u9) j)))), (za 24, .inl (k 2, 4096, .inl (fun j => bI ((uSE u9) j)))), (za 25, .inl (k 0, 4096, .inl (fun j => nI ((uPL u9) j)))), (za 30, .inl (k 0, 36, .inl (fun j => nI (PA j))))] := hw.sub [1, 2, 3, 4, 5, 6, 7, 8, 9, 10, 11, 12, 13, 14, 15, 16, 17, 18, 19, 20, 21, 22, 23, 0] (by decide) rfl
      refine lv_iinc (v := nI (ov + t + 1)) (lv' := [(1, .int (nI (ov + t + 1))), (0, .ref md)]) hx hb d_Md_search_64 hl (k := 0) rfl (nI_add (ov + t) 1) (by decide) rfl (fun ls hl => ?_)
      refine lv_goto (tgt := 53) hx hb d_Md_search_67 (by decide) ?_
      exact ih (t + 1) u9 (by omega) (by omega) (fwI_next (p2cn hc).1 (fun st x => bhR_lt st x 3) hsn hGB.2.2 hF hp.1) ⟨hp.1.2.2.2.1, hp.1.2.2.2.2.1, hp.1.2.2.2.2.2⟩ H locs ls hw (lv_sub hl [0, 1] rfl)

set_option maxHeartbeats 4000000 in
set_option maxRecDepth 100000 in
theorem lp_Md_se1 {l : Launch} {D : va_G} {k : Nat → ClassId} {md : Nat} {za : Nat → Nat} {th cn ov sn kn fd : Nat} {cst : Int64} {co tb : Nat} {IO : Nat → Int32} {OS : Nat → Int32} {RW : Nat → Nat} {RO : Nat → Int32} {RH : Nat → Int32} {RP : Nat → Int32} {LR : Nat → Nat} {LP : Nat → Nat} {NE : Nat → Nat} {PR : Nat → Nat} {CE : Nat → Nat} {gh gp : Nat → Nat → Option Nat} {HN : Nat → Int32} {PN : Nat → Int32} {TX : Nat → Bool} {CX : Nat → Nat} {KX : Nat → Nat} {WY : Nat → Nat} {SE : Nat → Bool} {PL : Nat → Nat} {PA : Nat → Nat} (hc : cn ≤ 3) (hov : ov ≤ 36) (hsn : sn < 512) (hlr : ∀ j, LR j ≤ 4 ∧ LP j ≤ 4) (hN : ∀ j, NE j ≤ 100000) (hP : ∀ j, PR j ≤ 1000) (hC : ∀ j, CE j ≤ 100000) (hr8 : ∀ k, RW k ≤ 8) (hgb : ∀ h k v, gh h k = some v → v ≤ 100000) (hqb : ∀ h k v, gp h k = some v → v ≤ 100000) (hns : ∀ h k, gh h k = none ↔ gp h k = none) (hg : ∀ h, h < 36 → ∀ k, k < cn → gmR RW RO RH RP (OS h) k (gh h k) (gp h k)) (hGB : gbI KX CX WY) {p : Program} {e : Env} {s : State} {m : MethodId} {below : List Frame} {meth : Method} {c : Code} {A : Nat → Prop} (hm : bM p s m (([.ref md] : List Value).toArray) meth c "HeatMachinesModel" b_Md_search 4 (some .boolean) (uw y_Md_search b_Md_search 4 (some .boolean))) (hnm : meth.name = "search") :
    ∀ (f : Nat) (i : Nat) (TH : Nat → Bool) (CO RK : Nat → Nat), 513 ≤ i + f → i ≤ 512 → (∀ s, s < i → TH s = decide (s = sn) ∧ CO s = 0 ∧ RK s = 0) → ∀ (H : Heap) (locs : List Loc) (ls : Array Slot), bW (gU D k) A s H locs [(md, .inr (7, mdL za th cn ov sn kn fd cst co tb)), (za 12, .inl (k 2, 108, .inl IO)), (za 9, .inl (k 0, 36, .inl OS)), (za 5, .inl (k 0, 3, .inl (fun j => nI (RW j)))), (za 6, .inl (k 0, 24, .inl RO)), (za 7, .inl (k 0, 24, .inl RH)), (za 8, .inl (k 0, 24, .inl RP)), (za 26, .inl (k 0, 3, .inl HN)), (za 27, .inl (k 0, 3, .inl PN)), (za 2, .inl (k 0, 3, .inl (fun j => nI (LR j)))), (za 3, .inl (k 0, 3, .inl (fun j => nI (LP j)))), (za 11, .inl (k 0, 36, .inl (fun j => nI (NE j)))), (za 10, .inl (k 0, 36, .inl (fun j => nI (PR j)))), (za 4, .inl (k 0, 3, .inl (fun j => nI (CE j)))), (za 17, .inl (k 2, 512, .inl (fun j => bI (TH j)))), (za 18, .inl (k 1, 512, .inr (.inl (fun j => lN (CO j))))), (za 19, .inl (k 0, 512, .inl (fun j => nI (RK j)))), (za 20, .inl (k 2, 512, .inl (fun j => bI (TX j)))), (za 21, .inl (k 1, 512, .inr (.inl (fun j => lN (CX j))))), (za 22, .inl (k 0, 512, .inl (fun j => nI (KX j)))), (za 23, .inl (k 0, 18432, .inl (fun j => nI (WY j)))), (za 24, .inl (k 2, 4096, .inl (fun j => bI (SE j)))), (za 25, .inl (k 0, 4096, .inl (fun j => nI (PL j)))), (za 30, .inl (k 0, 36, .inl (fun j => nI (PA j))))] → lv_has ls 4 [(1, .int (nI i)), (0, .ref md)] → W p l e (rU 4 0 0) s m (([.ref md] : List Value).toArray) below meth c H locs 0 0 (MQ below (va_Qi (fun (r : Int32) (u : hmS × (Nat → Nat) × Int64) => srP (fun h => mayR (fun k => cnO (fun j => IO (36 * k + j)) h (gh h k)) LR LP cn (NE h)) (fun s x => bhR s x 3) (fun h s x => ctR (gp h) CE (PR h) s x cn) (2 ^ cn) ov sn r u.2.1 u.2.2 ∧ gbI (uKX u.1) (uCX u.1) (uWY u.1)) (fun u => bQ (gU D k) A ([(md, .inr (7, mdL za th cn ov sn kn fd u.2.2 co tb)), (za 12, .inl (k 2, 108, .inl IO)), (za 9, .inl (k 0, 36, .inl OS)), (za 5, .inl (k 0, 3, .inl (fun j => nI (RW j)))), (za 6, .inl (k 0, 24, .inl RO)), (za 7, .inl (k 0, 24, .inl RH)), (za 8, .inl (k 0, 24, .inl RP)), (za 26, .inl (k 0, 3, .inl (uHN u.1))), (za 27, .inl (k 0, 3, .inl (uPN u.1))), (za 2, .inl (k 0, 3, .inl (fun j => nI (LR j)))), (za 3, .inl (k 0, 3, .inl (fun j => nI (LP j)))), (za 11, .inl (k 0, 36, .inl (fun j => nI (NE j)))), (za 10, .inl (k 0, 36, .inl (fun j => nI (PR j)))), (za 4, .inl (k 0, 3, .inl (fun j => nI (CE j)))), (za 17, .inl (k 2, 512, .inl (fun j => bI ((uTH u.1) j)))), (za 18, .inl (k 1, 512, .inr (.inl (fun j => lN ((uCO u.1) j))))), (za 19, .inl (k 0, 512, .inl (fun j => nI ((uRK u.1) j)))), (za 20, .inl (k 2, 512, .inl (fun j => bI ((uTX u.1) j)))), (za 21, .inl (k 1, 512, .inr (.inl (fun j => lN ((uCX u.1) j))))), (za 22, .inl (k 0, 512, .inl (fun j => nI ((uKX u.1) j)))), (za 23, .inl (k 0, 18432, .inl (fun j => nI ((uWY u.1) j)))), (za 24, .inl (k 2, 4096, .inl (fun j => bI ((uSE u.1) j)))), (za 25, .inl (k 0, 4096, .inl (fun j => nI ((uPL u.1) j)))), (za 30, .inl (k 0, 36, .inl (fun j => nI (u.2.1 j))))])) A) (([.ref md] : List Value).toArray) s (rU 4 0 0).cells (rU 4 0 0).slots A) (F0 m 2 ls []) := by
  have hx := hm.1
  have hb := hm.2.1
  have hown := hm.2.2.2.2.1
  have hts := hm.2.2.2.2.2.1
  intro f
  induction f with
  | zero => intro i TH CO RK hf hi hI; exfalso; omega
  | succ f ih =>
    intro i TH CO RK hf hi hI H locs ls hw hl
    refine lv_iload_n hx hb d_Md_search_2 rfl (lv_at hl 0 rfl) ?_
    refine lv_sipush (v := nI 512) hx hb d_Md_search_3 (by decide) ?_
    refine lv_icmp_ge (tgt := 48) hx hb d_Md_search_6 (by decide) (fun c_6_0 => ?_) (fun c_6_0 => ?_)
    · skip
      have h_6_0 : 512 ≤ i := yge c_6_0 (by omega) (by omega)
      refine lv_aload_n hx hb d_Md_search_48 rfl (lv_at hl 1 rfl) ?_
      refine b_get (T := F_Md) hm hw 0 rfl rfl (fun w h => uw_of w (u_Md w h)) 13 (by decide) (uw_of _ k_621) rfl d_Md_search_49 ?_
      refine lv_istore_n (lv' := [(1, .int (nI ov)), (0, .ref md)]) hx hb d_Md_search_52 rfl hl (by decide) rfl (fun ls hl => ?_)
      have hI : ∀ s, s < 512 → TH s = decide (s = sn) ∧ CO s = 0 ∧ RK s = 0 := fun s hs => hI s (by omega)
      exact lp_Md_se2 (gh := gh) (gp := gp) hc hov hsn hlr hN hP hC hr8 hgb hqb hns hg hm hnm 37 0 (HN, PN, TH, CO, RK, TX, CX, KX, WY, SE, PL) (by omega) (by omega) (fwI_0 hI) hGB _ _ ls hw (lv_sub hl [0, 1] rfl)
    · skip
      have h_6_0 : i < 512 := yltN c_6_0 (by omega) (by omega)
      refine lv_aload_n hx hb d_Md_search_9 rfl (lv_at hl 1 rfl) ?_
      refine b_get (T := F_Md) hm hw 0 rfl rfl (fun w h => uw_of w (u_Md w h)) 17 (by decide) (uw_of _ k_625) rfl d_Md_search_10 ?_
      refine lv_iload_n hx hb d_Md_search_13 rfl (lv_at hl 0 rfl) ?_
      refine b_mg (pc' := 27) (st' := [.int (bI (decide (i = sn))), .int (nI i), .ref (za 17)]) ?_ (fun kmg => ?_)
      · skip
        refine b_zast (i := i) hm hw 14 2 rfl rfl (nar01 (by first | exact bI_or _ | decide)) (by omega) (by omega) d_Md_search_27 (w1 := [(md, .inr (7, mdL za th cn ov sn kn fd cst co tb)), (za 12, .inl (k 2, 108, .inl IO)), (za 9, .inl (k 0, 36, .inl OS)), (za 5, .inl (k 0, 3, .inl (fun j => nI (RW j)))), (za 6, .inl (k 0, 24, .inl RO)), (za 7, .inl (k 0, 24, .inl RH)), (za 8, .inl (k 0, 24, .inl RP)), (za 26, .inl (k 0, 3, .inl HN)), (za 27, .inl (k 0, 3, .inl PN)), (za 2, .inl (k 0, 3, .inl (fun j => nI (LR j)))), (za 3, .inl (k 0, 3, .inl (fun j => nI (LP j)))), (za 11, .inl (k 0, 36, .inl (fun j => nI (NE j)))), (za 10, .inl (k 0, 36, .inl (fun j => nI (PR j)))), (za 4, .inl (k 0, 3, .inl (fun j => nI (CE j)))), (za 17, .inl (k 2, 512, .inl (fun j => bI ((va_up TH i (decide (i = sn))) j)))), (za 18, .inl (k 1, 512, .inr (.inl (fun j => lN (CO j))))), (za 19, .inl (k 0, 512, .inl (fun j => nI (RK j)))), (za 20, .inl (k 2, 512, .inl (fun j => bI (TX j)))), (za 21, .inl (k 1, 512, .inr (.inl (fun j => lN (CX j))))), (za 22, .inl (k 0, 512, .inl (fun j => nI (KX j)))), (za 23, .inl (k 0, 18432, .inl (fun j => nI (WY j)))), (za 24, .inl (k 2, 4096, .inl (fun j => bI (SE j)))), (za 25, .inl (k 0, 4096, .inl (fun j => nI (PL j)))), (za 30, .inl (k 0, 36, .inl (fun j => nI (PA j))))]) (by first | (rw [updB]; rfl) | (rw [show nI 0 = bI false from rfl, updB]; rfl) | (rw [show nI 1 = bI true from rfl, updB]; rfl)) (fun H locs hw => ?_)
        refine lv_aload_n hx hb d_Md_search_28 rfl (lv_at hl 1 rfl) ?_
        refine b_get (T := F_Md) hm hw 0 rfl rfl (fun w h => uw_of w (u_Md w h)) 18 (by decide) (uw_of _ k_626) rfl d_Md_search_29 ?_
        refine lv_iload_n hx hb d_Md_search_32 rfl (lv_at hl 0 rfl) ?_
        refine lv_lconst (v := 0) hx hb d_Md_search_33 (by decide) ?_
        refine b_tl (y := lN 0) (rfl) ?_
        refine b_last (i := i) hm hw 15 1 rfl rfl (by omega) (by omega) d_Md_search_34 (w1 := [(md, .inr (7, mdL za th cn ov sn kn fd cst co tb)), (za 12, .inl (k 2, 108, .inl IO)), (za 9, .inl (k 0, 36, .inl OS)), (za 5, .inl (k 0, 3, .inl (fun j => nI (RW j)))), (za 6, .inl (k 0, 24, .inl RO)), (za 7, .inl (k 0, 24, .inl RH)), (za 8, .inl (k 0, 24, .inl RP)), (za 26, .inl (k 0, 3, .inl HN)), (za 27, .inl (k 0, 3, .inl PN)), (za 2, .inl (k 0, 3, .inl (fun j => nI (LR j)))), (za 3, .inl (k 0, 3, .inl (fun j => nI (LP j)))), (za 11, .inl (k 0, 36, .inl (fun j => nI (NE j)))), (za 10, .inl (k 0, 36, .inl (fun j => nI (PR j)))), (za 4, .inl (k 0, 3, .inl (fun j => nI (CE j)))), (za 17, .inl (k 2, 512, .inl (fun j => bI ((va_up TH i (decide (i = sn))) j)))), (za 18, .inl (k 1, 512, .inr (.inl (fun j => lN ((va_up CO i 0) j))))), (za 19, .inl (k 0, 512, .inl (fun j => nI (RK j)))), (za 20, .inl (k 2, 512, .inl (fun j => bI (TX j)))), (za 21, .inl (k 1, 512, .inr (.inl (fun j => lN (CX j))))), (za 22, .inl (k 0, 512, .inl (fun j => nI (KX j)))), (za 23, .inl (k 0, 18432, .inl (fun j => nI (WY j)))), (za 24, .inl (k 2, 4096, .inl (fun j => bI (SE j)))), (za 25, .inl (k 0, 4096, .inl (fun j => nI (PL j)))), (za 30, .inl (k 0, 36, .inl (fun j => nI (PA j))))]) (by first | (rw [updLn]; rfl) | exact congrArg _ (updLn _ _ _)) (fun H locs hw => ?_)
        refine lv_aload_n hx hb d_Md_search_35 rfl (lv_at hl 1 rfl) ?_
        refine b_get (T := F_Md) hm hw 0 rfl rfl (fun w h => uw_of w (u_Md w h)) 19 (by decide) (uw_of _ k_627) rfl d_Md_search_36 ?_
        refine lv_iload_n hx hb d_Md_search_39 rfl (lv_at hl 0 rfl) ?_
        refine lv_iconst (v := nI 0) hx hb d_Md_search_40 (by decide) ?_
        refine b_iast (i := i) hm hw 16 0 rfl rfl (by omega) (by omega) d_Md_search_41 (w1 := [(md, .inr (7, mdL za th cn ov sn kn fd cst co tb)), (za 12, .inl (k 2, 108, .inl IO)), (za 9, .inl (k 0, 36, .inl OS)), (za 5, .inl (k 0, 3, .inl (fun j => nI (RW j)))), (za 6, .inl (k 0, 24, .inl RO)), (za 7, .inl (k 0, 24, .inl RH)), (za 8, .inl (k 0, 24, .inl RP)), (za 26, .inl (k 0, 3, .inl HN)), (za 27, .inl (k 0, 3, .inl PN)), (za 2, .inl (k 0, 3, .inl (fun j => nI (LR j)))), (za 3, .inl (k 0, 3, .inl (fun j => nI (LP j)))), (za 11, .inl (k 0, 36, .inl (fun j => nI (NE j)))), (za 10, .inl (k 0, 36, .inl (fun j => nI (PR j)))), (za 4, .inl (k 0, 3, .inl (fun j => nI (CE j)))), (za 17, .inl (k 2, 512, .inl (fun j => bI ((va_up TH i (decide (i = sn))) j)))), (za 18, .inl (k 1, 512, .inr (.inl (fun j => lN ((va_up CO i 0) j))))), (za 19, .inl (k 0, 512, .inl (fun j => nI ((va_up RK i 0) j)))), (za 20, .inl (k 2, 512, .inl (fun j => bI (TX j)))), (za 21, .inl (k 1, 512, .inr (.inl (fun j => lN (CX j))))), (za 22, .inl (k 0, 512, .inl (fun j => nI (KX j)))), (za 23, .inl (k 0, 18432, .inl (fun j => nI (WY j)))), (za 24, .inl (k 2, 4096, .inl (fun j => bI (SE j)))), (za 25, .inl (k 0, 4096, .inl (fun j => nI (PL j)))), (za 30, .inl (k 0, 36, .inl (fun j => nI (PA j))))]) (by rw [updN]; rfl) (fun H locs hw => ?_)
        refine lv_iinc (v := nI (i + 1)) (lv' := [(1, .int (nI (i + 1))), (0, .ref md)]) hx hb d_Md_search_42 hl (k := 0) rfl (nI_add i 1) (by decide) rfl (fun ls hl => ?_)
        refine lv_goto (tgt := 2) hx hb d_Md_search_45 (by decide) ?_
        exact ih (i + 1) _ _ _ (by omega) (by omega) (by intro s9 h9; by_cases e : s9 = i; rw [e, va_up_self, va_up_self, va_up_self]; exact ⟨rfl, rfl, rfl⟩; rw [va_up_ne _ _ e, va_up_ne _ _ e, va_up_ne _ _ e]; exact hI s9 (by omega)) H locs ls hw (lv_sub hl [0, 1] rfl)
      · skip
        refine lv_iload_n hx hb d_Md_search_14 rfl (lv_at hl 0 rfl) ?_
        refine lv_aload_n hx hb d_Md_search_15 rfl (lv_at hl 1 rfl) ?_
        refine b_get (T := F_Md) hm hw 0 rfl rfl (fun w h => uw_of w (u_Md w h)) 16 (by decide) (uw_of _ k_624) rfl d_Md_search_16 ?_
        refine lv_icmp_ne (tgt := 26) hx hb d_Md_search_19 (by decide) (fun c_19_1 => ?_) (fun c_19_1 => ?_)
        · skip
          have h_19_1 : i ≠ sn := yne c_19_1 (by omega) (by omega)
          refine lv_iconst (v := nI 0) hx hb d_Md_search_26 (by decide) ?_
          exact b_ti (x := nI 0) (y := bI (decide (i = sn))) (congrArg bI (show false = (decide (i = sn)) from (decide_eq_false (by omega)).symm)) kmg
        · skip
          have h_19_1 : i = sn := yeq c_19_1 (by omega) (by omega)
          refine lv_iconst (v := nI 1) hx hb d_Md_search_22 (by decide) ?_
          refine lv_goto (tgt := 27) hx hb d_Md_search_23 (by decide) ?_
          exact b_ti (x := nI 1) (y := bI (decide (i = sn))) (congrArg bI (show true = (decide (i = sn)) from (decide_eq_true (by omega)).symm)) kmg

set_option maxHeartbeats 4000000 in
set_option maxRecDepth 100000 in
theorem c_Md_search (l : Launch) (D : va_G) (k : Nat → ClassId) (sz : Nat) (md : Nat) (za : Nat → Nat) (th cn ov sn kn fd : Nat) (cst : Int64) (co tb : Nat) (IO : Nat → Int32) (OS : Nat → Int32) (RW : Nat → Nat) (RO : Nat → Int32) (RH : Nat → Int32) (RP : Nat → Int32) (LR : Nat → Nat) (LP : Nat → Nat) (NE : Nat → Nat) (PR : Nat → Nat) (CE : Nat → Nat) (gh gp : Nat → Nat → Option Nat) (v : hmS) (PA : Nat → Nat) (hc : cn ≤ 3) (hov : ov ≤ 36) (hsn : sn < 512) (hlr : ∀ j, LR j ≤ 4 ∧ LP j ≤ 4) (hN : ∀ j, NE j ≤ 100000) (hP : ∀ j, PR j ≤ 1000) (hC : ∀ j, CE j ≤ 100000) (hr8 : ∀ k, RW k ≤ 8) (hgb : ∀ h k v, gh h k = some v → v ≤ 100000) (hqb : ∀ h k v, gp h k = some v → v ≤ 100000) (hns : ∀ h k, gh h k = none ↔ gp h k = none) (hg : ∀ h, h < 36 → ∀ k, k < cn → gmR RW RO RH RP (OS h) k (gh h k) (gp h k)) (hGB : gbI (uKX v) (uCX v) (uWY v)) : Met l y_Md_search (uw y_Md_search b_Md_search 4 (some .boolean)) (rU 4 0 0) (va_Pc [.ref md] (bP (gU D k) [(md, .inr (7, mdL za th cn ov sn kn fd cst co tb)), (za 12, .inl (k 2, 108, .inl IO)), (za 9, .inl (k 0, 36, .inl OS)), (za 5, .inl (k 0, 3, .inl (fun j => nI (RW j)))), (za 6, .inl (k 0, 24, .inl RO)), (za 7, .inl (k 0, 24, .inl RH)), (za 8, .inl (k 0, 24, .inl RP)), (za 26, .inl (k 0, 3, .inl (uHN v))), (za 27, .inl (k 0, 3, .inl (uPN v))), (za 2, .inl (k 0, 3, .inl (fun j => nI (LR j)))), (za 3, .inl (k 0, 3, .inl (fun j => nI (LP j)))), (za 11, .inl (k 0, 36, .inl (fun j => nI (NE j)))), (za 10, .inl (k 0, 36, .inl (fun j => nI (PR j)))), (za 4, .inl (k 0, 3, .inl (fun j => nI (CE j)))), (za 17, .inl (k 2, 512, .inl (fun j => bI ((uTH v) j)))), (za 18, .inl (k 1, 512, .inr (.inl (fun j => lN ((uCO v) j))))), (za 19, .inl (k 0, 512, .inl (fun j => nI ((uRK v) j)))), (za 20, .inl (k 2, 512, .inl (fun j => bI ((uTX v) j)))), (za 21, .inl (k 1, 512, .inr (.inl (fun j => lN ((uCX v) j))))), (za 22, .inl (k 0, 512, .inl (fun j => nI ((uKX v) j)))), (za 23, .inl (k 0, 18432, .inl (fun j => nI ((uWY v) j)))), (za 24, .inl (k 2, 4096, .inl (fun j => bI ((uSE v) j)))), (za 25, .inl (k 0, 4096, .inl (fun j => nI ((uPL v) j)))), (za 30, .inl (k 0, 36, .inl (fun j => nI (PA j))))] sz)) (va_Qi (fun (r : Int32) (u : hmS × (Nat → Nat) × Int64) => srP (fun h => mayR (fun k => cnO (fun j => IO (36 * k + j)) h (gh h k)) LR LP cn (NE h)) (fun s x => bhR s x 3) (fun h s x => ctR (gp h) CE (PR h) s x cn) (2 ^ cn) ov sn r u.2.1 u.2.2 ∧ gbI (uKX u.1) (uCX u.1) (uWY u.1)) (fun u => bQ (gU D k) (va_A [(md, .inr (7, mdL za th cn ov sn kn fd cst co tb)), (za 12, .inl (k 2, 108, .inl IO)), (za 9, .inl (k 0, 36, .inl OS)), (za 5, .inl (k 0, 3, .inl (fun j => nI (RW j)))), (za 6, .inl (k 0, 24, .inl RO)), (za 7, .inl (k 0, 24, .inl RH)), (za 8, .inl (k 0, 24, .inl RP)), (za 26, .inl (k 0, 3, .inl (uHN v))), (za 27, .inl (k 0, 3, .inl (uPN v))), (za 2, .inl (k 0, 3, .inl (fun j => nI (LR j)))), (za 3, .inl (k 0, 3, .inl (fun j => nI (LP j)))), (za 11, .inl (k 0, 36, .inl (fun j => nI (NE j)))), (za 10, .inl (k 0, 36, .inl (fun j => nI (PR j)))), (za 4, .inl (k 0, 3, .inl (fun j => nI (CE j)))), (za 17, .inl (k 2, 512, .inl (fun j => bI ((uTH v) j)))), (za 18, .inl (k 1, 512, .inr (.inl (fun j => lN ((uCO v) j))))), (za 19, .inl (k 0, 512, .inl (fun j => nI ((uRK v) j)))), (za 20, .inl (k 2, 512, .inl (fun j => bI ((uTX v) j)))), (za 21, .inl (k 1, 512, .inr (.inl (fun j => lN ((uCX v) j))))), (za 22, .inl (k 0, 512, .inl (fun j => nI ((uKX v) j)))), (za 23, .inl (k 0, 18432, .inl (fun j => nI ((uWY v) j)))), (za 24, .inl (k 2, 4096, .inl (fun j => bI ((uSE v) j)))), (za 25, .inl (k 0, 4096, .inl (fun j => nI ((uPL v) j)))), (za 30, .inl (k 0, 36, .inl (fun j => nI (PA j))))] sz) ([(md, .inr (7, mdL za th cn ov sn kn fd u.2.2 co tb)), (za 12, .inl (k 2, 108, .inl IO)), (za 9, .inl (k 0, 36, .inl OS)), (za 5, .inl (k 0, 3, .inl (fun j => nI (RW j)))), (za 6, .inl (k 0, 24, .inl RO)), (za 7, .inl (k 0, 24, .inl RH)), (za 8, .inl (k 0, 24, .inl RP)), (za 26, .inl (k 0, 3, .inl (uHN u.1))), (za 27, .inl (k 0, 3, .inl (uPN u.1))), (za 2, .inl (k 0, 3, .inl (fun j => nI (LR j)))), (za 3, .inl (k 0, 3, .inl (fun j => nI (LP j)))), (za 11, .inl (k 0, 36, .inl (fun j => nI (NE j)))), (za 10, .inl (k 0, 36, .inl (fun j => nI (PR j)))), (za 4, .inl (k 0, 3, .inl (fun j => nI (CE j)))), (za 17, .inl (k 2, 512, .inl (fun j => bI ((uTH u.1) j)))), (za 18, .inl (k 1, 512, .inr (.inl (fun j => lN ((uCO u.1) j))))), (za 19, .inl (k 0, 512, .inl (fun j => nI ((uRK u.1) j)))), (za 20, .inl (k 2, 512, .inl (fun j => bI ((uTX u.1) j)))), (za 21, .inl (k 1, 512, .inr (.inl (fun j => lN ((uCX u.1) j))))), (za 22, .inl (k 0, 512, .inl (fun j => nI ((uKX u.1) j)))), (za 23, .inl (k 0, 18432, .inl (fun j => nI ((uWY u.1) j)))), (za 24, .inl (k 2, 4096, .inl (fun j => bI ((uSE u.1) j)))), (za 25, .inl (k 0, 4096, .inl (fun j => nI ((uPL u.1) j)))), (za 30, .inl (k 0, 36, .inl (fun j => nI (u.2.1 j))))])) (va_A [(md, .inr (7, mdL za th cn ov sn kn fd cst co tb)), (za 12, .inl (k 2, 108, .inl IO)), (za 9, .inl (k 0, 36, .inl OS)), (za 5, .inl (k 0, 3, .inl (fun j => nI (RW j)))), (za 6, .inl (k 0, 24, .inl RO)), (za 7, .inl (k 0, 24, .inl RH)), (za 8, .inl (k 0, 24, .inl RP)), (za 26, .inl (k 0, 3, .inl (uHN v))), (za 27, .inl (k 0, 3, .inl (uPN v))), (za 2, .inl (k 0, 3, .inl (fun j => nI (LR j)))), (za 3, .inl (k 0, 3, .inl (fun j => nI (LP j)))), (za 11, .inl (k 0, 36, .inl (fun j => nI (NE j)))), (za 10, .inl (k 0, 36, .inl (fun j => nI (PR j)))), (za 4, .inl (k 0, 3, .inl (fun j => nI (CE j)))), (za 17, .inl (k 2, 512, .inl (fun j => bI ((uTH v) j)))), (za 18, .inl (k 1, 512, .inr (.inl (fun j => lN ((uCO v) j))))), (za 19, .inl (k 0, 512, .inl (fun j => nI ((uRK v) j)))), (za 20, .inl (k 2, 512, .inl (fun j => bI ((uTX v) j)))), (za 21, .inl (k 1, 512, .inr (.inl (fun j => lN ((uCX v) j))))), (za 22, .inl (k 0, 512, .inl (fun j => nI ((uKX v) j)))), (za 23, .inl (k 0, 18432, .inl (fun j => nI ((uWY v) j)))), (za 24, .inl (k 2, 4096, .inl (fun j => bI ((uSE v) j)))), (za 25, .inl (k 0, 4096, .inl (fun j => nI ((uPL v) j)))), (za 30, .inl (k 0, 36, .inl (fun j => nI (PA j))))] sz)) (rU 4 0 0).cells (rU 4 0 0).slots (va_A [(md, .inr (7, mdL za th cn ov sn kn fd cst co tb)), (za 12, .inl (k 2, 108, .inl IO)), (za 9, .inl (k 0, 36, .inl OS)), (za 5, .inl (k 0, 3, .inl (fun j => nI (RW j)))), (za 6, .inl (k 0, 24, .inl RO)), (za 7, .inl (k 0, 24, .inl RH)), (za 8, .inl (k 0, 24, .inl RP)), (za 26, .inl (k 0, 3, .inl (uHN v))), (za 27, .inl (k 0, 3, .inl (uPN v))), (za 2, .inl (k 0, 3, .inl (fun j => nI (LR j)))), (za 3, .inl (k 0, 3, .inl (fun j => nI (LP j)))), (za 11, .inl (k 0, 36, .inl (fun j => nI (NE j)))), (za 10, .inl (k 0, 36, .inl (fun j => nI (PR j)))), (za 4, .inl (k 0, 3, .inl (fun j => nI (CE j)))), (za 17, .inl (k 2, 512, .inl (fun j => bI ((uTH v) j)))), (za 18, .inl (k 1, 512, .inr (.inl (fun j => lN ((uCO v) j))))), (za 19, .inl (k 0, 512, .inl (fun j => nI ((uRK v) j)))), (za 20, .inl (k 2, 512, .inl (fun j => bI ((uTX v) j)))), (za 21, .inl (k 1, 512, .inr (.inl (fun j => lN ((uCX v) j))))), (za 22, .inl (k 0, 512, .inl (fun j => nI ((uKX v) j)))), (za 23, .inl (k 0, 18432, .inl (fun j => nI ((uWY v) j)))), (za 24, .inl (k 2, 4096, .inl (fun j => bI ((uSE v) j)))), (za 25, .inl (k 0, 4096, .inl (fun j => nI ((uPL v) j)))), (za 30, .inl (k 0, 36, .inl (fun j => nI (PA j))))] sz) := by
  refine b_start (y := y_Md_search) (maxL := 4) (ret := (some .boolean)) (cc := b_Md_search) (ws' := ut) (rm := rU 4 0 0) (av := [.ref md]) (g := gU D k) (ws := [(md, .inr (7, mdL za th cn ov sn kn fd cst co tb)), (za 12, .inl (k 2, 108, .inl IO)), (za 9, .inl (k 0, 36, .inl OS)), (za 5, .inl (k 0, 3, .inl (fun j => nI (RW j)))), (za 6, .inl (k 0, 24, .inl RO)), (za 7, .inl (k 0, 24, .inl RH)), (za 8, .inl (k 0, 24, .inl RP)), (za 26, .inl (k 0, 3, .inl (uHN v))), (za 27, .inl (k 0, 3, .inl (uPN v))), (za 2, .inl (k 0, 3, .inl (fun j => nI (LR j)))), (za 3, .inl (k 0, 3, .inl (fun j => nI (LP j)))), (za 11, .inl (k 0, 36, .inl (fun j => nI (NE j)))), (za 10, .inl (k 0, 36, .inl (fun j => nI (PR j)))), (za 4, .inl (k 0, 3, .inl (fun j => nI (CE j)))), (za 17, .inl (k 2, 512, .inl (fun j => bI ((uTH v) j)))), (za 18, .inl (k 1, 512, .inr (.inl (fun j => lN ((uCO v) j))))), (za 19, .inl (k 0, 512, .inl (fun j => nI ((uRK v) j)))), (za 20, .inl (k 2, 512, .inl (fun j => bI ((uTX v) j)))), (za 21, .inl (k 1, 512, .inr (.inl (fun j => lN ((uCX v) j))))), (za 22, .inl (k 0, 512, .inl (fun j => nI ((uKX v) j)))), (za 23, .inl (k 0, 18432, .inl (fun j => nI ((uWY v) j)))), (za 24, .inl (k 2, 4096, .inl (fun j => bI ((uSE v) j)))), (za 25, .inl (k 0, 4096, .inl (fun j => nI ((uPL v) j)))), (za 30, .inl (k 0, 36, .inl (fun j => nI (PA j))))]) (sz := sz) (Qc := fun A => va_Qi (fun (r : Int32) (u : hmS × (Nat → Nat) × Int64) => srP (fun h => mayR (fun k => cnO (fun j => IO (36 * k + j)) h (gh h k)) LR LP cn (NE h)) (fun s x => bhR s x 3) (fun h s x => ctR (gp h) CE (PR h) s x cn) (2 ^ cn) ov sn r u.2.1 u.2.2 ∧ gbI (uKX u.1) (uCX u.1) (uWY u.1)) (fun u => bQ (gU D k) A ([(md, .inr (7, mdL za th cn ov sn kn fd u.2.2 co tb)), (za 12, .inl (k 2, 108, .inl IO)), (za 9, .inl (k 0, 36, .inl OS)), (za 5, .inl (k 0, 3, .inl (fun j => nI (RW j)))), (za 6, .inl (k 0, 24, .inl RO)), (za 7, .inl (k 0, 24, .inl RH)), (za 8, .inl (k 0, 24, .inl RP)), (za 26, .inl (k 0, 3, .inl (uHN u.1))), (za 27, .inl (k 0, 3, .inl (uPN u.1))), (za 2, .inl (k 0, 3, .inl (fun j => nI (LR j)))), (za 3, .inl (k 0, 3, .inl (fun j => nI (LP j)))), (za 11, .inl (k 0, 36, .inl (fun j => nI (NE j)))), (za 10, .inl (k 0, 36, .inl (fun j => nI (PR j)))), (za 4, .inl (k 0, 3, .inl (fun j => nI (CE j)))), (za 17, .inl (k 2, 512, .inl (fun j => bI ((uTH u.1) j)))), (za 18, .inl (k 1, 512, .inr (.inl (fun j => lN ((uCO u.1) j))))), (za 19, .inl (k 0, 512, .inl (fun j => nI ((uRK u.1) j)))), (za 20, .inl (k 2, 512, .inl (fun j => bI ((uTX u.1) j)))), (za 21, .inl (k 1, 512, .inr (.inl (fun j => lN ((uCX u.1) j))))), (za 22, .inl (k 0, 512, .inl (fun j => nI ((uKX u.1) j)))), (za 23, .inl (k 0, 18432, .inl (fun j => nI ((uWY u.1) j)))), (za 24, .inl (k 2, 4096, .inl (fun j => bI ((uSE u.1) j)))), (za 25, .inl (k 0, 4096, .inl (fun j => nI ((uPL u.1) j)))), (za 30, .inl (k 0, 36, .inl (fun j => nI (u.2.1 j))))])) A) (by decide +kernel) (Nat.le_of_ble_eq_true rfl) ?_
  intro p e s m below meth c A hm hnm hw ls hl
  have hl : lv_has ls 4 [(0, .ref md)] := hl
  have hx := hm.1
  have hb := hm.2.1
  have hown := hm.2.2.2.2.1
  have hts := hm.2.2.2.2.2.1
  refine lv_iconst (v := nI 0) hx hb d_Md_search_0 (by decide) ?_
  refine lv_istore_n (lv' := [(1, .int (nI 0)), (0, .ref md)]) hx hb d_Md_search_1 rfl hl (by decide) rfl (fun ls hl => ?_)
  exact lp_Md_se1 (gh := gh) (gp := gp) hc hov hsn hlr hN hP hC hr8 hgb hqb hns hg hGB hm hnm 513 0 _ _ _ (by omega) (by omega) (fun s h => absurd h (by omega)) _ _ ls hw (lv_sub hl [0, 1] rfl)
