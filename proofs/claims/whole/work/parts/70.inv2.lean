/-! the invariant behind each call -/
theorem KA_219 {lr lp : Nat → Nat} (h : ∀ k, lr k ≤ 4 ∧ lp k ≤ 4) : ∀ c, c ≤ 3 → KA lr lp 219 c = 0
  | 0, _ => rfl
  | c + 1, hc => by
    show KA lr lp 219 c + cl (lr c) (lp c) (dg 219 c) * 8 ^ c = 0
    have e : dg 219 c = 3 := by rcases (show c = 0 ∨ c = 1 ∨ c = 2 by omega) with rfl | rfl | rfl <;> rfl
    have e2 : cl (lr c) (lp c) 3 = 0 := by unfold cl; rw [if_neg (by omega)]; have := (h c).2; omega
    rw [KA_219 h c (by omega), e, e2, Nat.zero_mul]
theorem smA_congr {g g' : Nat → Option Nat} : ∀ c x, (∀ k, k < c → g k = g' k) → smA g c x = smA g' c x
  | 0, _, _ => rfl
  | c + 1, x, h => by
    show (if x < 2 ^ c then smA g c x else smA g c (x - 2 ^ c) + (g c).getD 0) = (if x < 2 ^ c then smA g' c x else smA g' c (x - 2 ^ c) + (g' c).getD 0)
    rw [smA_congr c x (fun k hk => h k (by omega)), smA_congr c (x - 2 ^ c) (fun k hk => h k (by omega)), h c (by omega)]
theorem up4 {f : Nat → Nat} {k a M : Nat} (h : ∀ j, f j ≤ M) (ha : a ≤ M) : ∀ j, va_up f k a j ≤ M := by
  intro j
  by_cases e : j = k
  · rw [e, va_up_self]; exact ha
  · rw [va_up_ne _ _ e]; exact h j
theorem pw8 {c : Nat} (h : c ≤ 3) : 8 ^ c ≤ 512 ∧ 0 < 8 ^ c := by rcases (show c = 0 ∨ c = 1 ∨ c = 2 ∨ c = 3 by omega) with rfl | rfl | rfl | rfl <;> decide
/-- a machine more: the states that there are -/
theorem st_more {lr lp R R' : Nat → Nat} {cn n n' a b : Nat} (hc : cn < 3) (hb : 1 ≤ b) (hn : n ≤ 8 ^ cn) (h6 : ∀ j, j < n → RelS lr lp cn (R j)) (h7 : ∀ st, RelS lr lp cn st → ∃ j, j < n ∧ R j = st)
    (hE : exI n cn (va_up lr cn a cn) (va_up lp cn b cn) R 8 0 n' R') : n' ≤ 8 ^ (cn + 1) ∧ (∀ j, j < n' → RelS (va_up lr cn a) (va_up lp cn b) (cn + 1) (R' j)) ∧ ∀ st, RelS (va_up lr cn a) (va_up lp cn b) (cn + 1) st → ∃ j, j < n' ∧ R' j = st := by
  rw [va_up_self, va_up_self] at hE
  obtain ⟨h1, h2, h3, h4⟩ := hE
  have e8 : 8 ^ (cn + 1) = 8 ^ cn * 8 := Nat.pow_succ 8 cn
  have hn' : n' = pos a b n 8 0 := by rcases h1 with ⟨-, q⟩ | ⟨-, q⟩ <;> exact q
  have hk7 : rkN a b 8 ≤ 7 := rkN_le 7
  have hpos : pos a b n 8 0 = n * (1 + rkN a b 8) := by unfold pos; omega
  have hle : n * (1 + rkN a b 8) ≤ n * 8 := Nat.mul_le_mul_left _ (by omega)
  have hge : n * 1 ≤ n * (1 + rkN a b 8) := Nat.mul_le_mul_left _ (by omega)
  refine ⟨by omega, fun j hj => ?_, fun st hst => ?_⟩
  · obtain ⟨y, x, hy, hx, hr, e⟩ := h4 j hj
    obtain ⟨g1, g2⟩ := h6 y hy
    rw [e]
    refine ⟨?_, fun k hk => ?_⟩
    · have : x * 8 ^ cn ≤ 7 * 8 ^ cn := Nat.mul_le_mul_right _ (by omega)
      omega
    · rcases Nat.lt_or_ge k cn with q | q
      · rw [dg_low g1 q, va_up_ne _ _ (by omega), va_up_ne _ _ (by omega)]; exact g2 k q
      · rw [show k = cn by omega, dg_top g1 hx, va_up_self, va_up_self]
        rcases hr with rfl | hr
        · unfold rch; rw [if_neg (by omega)]; omega
        · exact hr
  · obtain ⟨g1, g2⟩ := hst
    have hx : st / 8 ^ cn < 8 := (Nat.div_lt_iff_lt_mul (pw8 (by omega)).2).mpr (by omega)
    have hlt : st % 8 ^ cn < 8 ^ cn := Nat.mod_lt _ (pw8 (by omega)).2
    have e : st = st % 8 ^ cn + st / 8 ^ cn * 8 ^ cn := by rw [Nat.mul_comm]; exact (Nat.mod_add_div st (8 ^ cn)).symm
    have hrel : RelS lr lp cn (st % 8 ^ cn) := by
      refine ⟨hlt, fun k hk => ?_⟩
      have := g2 k (by omega)
      rw [e, dg_low hlt hk, va_up_ne _ _ (by omega), va_up_ne _ _ (by omega)] at this
      exact this
    have htop := g2 cn (by omega)
    rw [e, dg_top hlt hx, va_up_self, va_up_self] at htop
    obtain ⟨j, hj, hRj⟩ := h7 _ hrel
    rcases Nat.eq_zero_or_pos (st / 8 ^ cn) with z | z
    · refine ⟨j, by omega, ?_⟩
      rw [h2 j hj, hRj]; rw [z] at e; omega
    · refine ⟨pos a b n (st / 8 ^ cn) j, ?_, ?_⟩
      · rw [hn']; exact pos_lt z hx htop hj
      · rw [h3 _ j z (Or.inl ⟨hx, hj⟩) htop, hRj]; exact e.symm
section INV2
variable {cn ov sta stl n wz bz : Nat} {lr lp sc zz FP FN AB HE PO SX R RB MR MP AF : Nat → Nat} {BE : Nat → Option Nat} {FO SE WF WG BF : Nat → Int32} {LF LG LP OU : Nat → Nat → Int32} {sn : Nat} {LR LQ CE : Nat → Nat} {RO RH RP IO : Nat → Int32} {w : fdS}
set_option maxHeartbeats 1000000 in
theorem lw_machine {a b q n' : Nat} {SX' R' RB' MR' MP' AF' : Nat → Nat} (h : lwI cn 0 sta stl n wz bz lr lp sc zz FP FN AB HE PO SX R RB MR MP AF BE FO SE WF WG BF LF LG LP OU sn LR LQ CE RO RH RP IO w) (hc : cn < 3) (ha : 1 ≤ a ∧ a ≤ 4) (hb : 1 ≤ b ∧ b ≤ 4) (hq : q ≤ 100000)
    (hE : exI n cn (va_up lr cn a cn) (va_up lp cn b cn) R 8 0 n' R') (hS : stOk (va_up lr cn a) (va_up lp cn b) (cn + 1) n' R' RB' MR' MP' AF') (hB : bxI R' RB' MR' MP' AF') (hX : sxI cn (va_up sc cn q cn) SX (2 ^ cn) SX') :
    lwI (cn + 1) 0 sta 36 n' wz bz (va_up lr cn a) (va_up lp cn b) (va_up sc cn q) zz FP FN AB HE PO SX' R' RB' MR' MP' AF' BE FO SE WF WG BF LF LG LP OU sn (va_up LR cn a) (va_up LQ cn b) (va_up CE cn q) RO RH RP IO (w.1, w.2.1, w.2.2.1, 0, w.2.2.2.2) := by
  obtain ⟨⟨i1, i2, i3, i4, i5⟩, hP, hb0, ⟨l1, l2, l3, l4⟩, hr0, c1, c2, hf⟩ := h
  obtain ⟨⟨s1, s2, s3, s4, s5, s6, s7, s8, s9⟩, ⟨p1, p2, p3, p4, p5, p6, p7, p8, p9, p10⟩, k3, k4, k5, k6, k7, k8, k9⟩ := hP
  have e219 := i3 rfl
  have h4 : ∀ j, va_up lr cn a j ≤ 4 ∧ va_up lp cn b j ≤ 4 := fun j => ⟨up4 (fun j => (s3 j).1) ha.2 j, up4 (fun j => (s3 j).2) hb.2 j⟩
  have hsta0 : sta = 0 := by rw [i4, e219]; exact KA_219 s3 cn i1
  obtain ⟨m1, m2, m3⟩ := st_more hc hb.1 i5 s6 s7 hE
  have hsc : ∀ j, va_up sc cn q j ≤ 100000 := up4 l2 hq
  rw [va_up_self] at hX
  have e2 : 2 ^ (cn + 1) = 2 ^ cn + 2 ^ cn := by rw [Nat.pow_succ]; omega
  have hcg : ∀ x, smA (fun k => some (va_up sc cn q k)) cn x = smA (fun k => some (sc k)) cn x := fun x => smA_congr cn x (fun k hk => by rw [va_up_ne _ _ (by omega)])
  refine ⟨⟨by omega, i2, i3, ?_, m1⟩, ⟨⟨by omega, ?_, h4, ?_, hB.1, m2, m3, hS, ?_⟩, ⟨p1, p2, p3, ?_, p5, p6, hB.2.1, hB.2.2.1, hB.2.2.2.1, hB.2.2.2.2⟩, k3, k4, fun h a b c => by omega, k6, Nat.le_refl 36, ?_, fun z => by omega⟩, hB, ⟨l1, hsc, ?_, ?_⟩, hr0, c1, c2, fd_forget hf⟩
  · rw [hsta0, e219]; exact (KA_219 h4 (cn + 1) (by omega)).symm
  · exact Nat.le_trans m1 (pw8 (by omega)).1
  · intro j hj
    rcases Nat.lt_or_ge j cn with q | q
    · rw [va_up_ne _ _ (by omega), va_up_ne _ _ (by omega)]; exact s4 j q
    · rw [show j = cn by omega, va_up_self, va_up_self]; exact ⟨ha.1, hb.1⟩
  · intro x hx
    show SX' x = if x < 2 ^ cn then smA (fun k => some (va_up sc cn q k)) cn x else smA (fun k => some (va_up sc cn q k)) cn (x - 2 ^ cn) + va_up sc cn q cn
    by_cases z : x < 2 ^ cn
    · rw [if_pos z, hX.2 x (Or.inl z), s9 x z, hcg]
    · rw [if_neg z, hcg, va_up_self, ← s9 (x - 2 ^ cn) (by omega), ← hX.1 (x - 2 ^ cn) (by omega)]
      congr 1; omega
  · intro j
    by_cases z : j < 2 ^ cn ∨ 2 ^ cn + 2 ^ cn ≤ j
    · rw [hX.2 j z]; exact p4 j
    · have e : j = 2 ^ cn + (j - 2 ^ cn) := by omega
      rw [e, hX.1 (j - 2 ^ cn) (by omega), s9 (j - 2 ^ cn) (by omega)]
      have := smA_le (g := fun k => some (sc k)) (fun k v hv => by cases hv; exact l2 k) cn (j - 2 ^ cn)
      omega
  · rw [hsta0]
    refine ⟨(pw8 (by omega)).2, fun k hk => ?_⟩
    have e0 : dg 0 k = 0 := by unfold dg; rw [Nat.zero_div]
    rw [e0]; unfold rch; rw [if_neg (by omega)]
    rcases Nat.lt_or_ge k cn with q | q
    · rw [va_up_ne _ _ (by omega)]; have := (s4 k q).2; omega
    · rw [show k = cn by omega, va_up_self]; omega
  · intro k hk
    rcases Nat.lt_or_ge k cn with q | q
    · have h' : k ≠ cn := by omega
      rw [va_up_ne _ _ h', va_up_ne _ _ h', va_up_ne _ _ h', va_up_ne _ _ h', va_up_ne _ _ h', va_up_ne _ _ h']; exact l3 k q
    · rw [show k = cn by omega, va_up_self, va_up_self, va_up_self, va_up_self, va_up_self, va_up_self]; exact ⟨rfl, rfl, rfl⟩
  · exact fun k => ⟨⟨up4 (fun j => (l4 j).1.1) ha.2 k, up4 (fun j => (l4 j).1.2) hb.2 k⟩, up4 (fun j => (l4 j).2) hq k⟩
theorem i5k {v : Int32} {a b : Int} (h1 : a ≤ v.toInt) (h2 : v.toInt ≤ b) : a ≤ v.toInt ∧ v.toInt ≤ b := ⟨h1, h2⟩
theorem v5 {v : Int32} (h : (-5000) ≤ v ∧ v ≤ nI 5000) : -5000 ≤ v.toInt ∧ v.toInt ≤ 5000 := by
  have a := Int32.le_iff_toInt_le.mp h.1
  have b := Int32.le_iff_toInt_le.mp h.2
  rw [nI_T (by omega)] at b
  have e : (-5000 : Int32).toInt = -5000 := by decide
  rw [e] at a
  exact ⟨a, by omega⟩
theorem v0 {v : Int32} {M : Nat} (hM : M < 2147483648) (h : nI 0 ≤ v ∧ v ≤ nI M) : 0 ≤ v.toInt ∧ v.toInt ≤ (M : Int) := by
  have a := Int32.le_iff_toInt_le.mp h.1
  have b := Int32.le_iff_toInt_le.mp h.2
  rw [nI_T hM] at b
  rw [nI_T (by omega)] at a
  exact ⟨by omega, b⟩
theorem upd_s (f : Nat → Int32) (k : Nat) (x : Int32) : upd f k x k = x := if_pos rfl
theorem upd_n (f : Nat → Int32) {k j : Nat} (x : Int32) (h : j ≠ k) : upd f k x j = f j := if_neg h
theorem lnG_more {F G : Nat → Int32} {z N : Nat} {M : Int} {v y : Int32} (h : lnG F G z M) (hr : lnRoom N F z v) (hv : -5000 ≤ v.toInt ∧ v.toInt ≤ 5000) (hy : 0 ≤ y.toInt ∧ y.toInt ≤ M) : lnG (upd F z v) (upd G z y) (z + 1) M := by
  obtain ⟨h1, h2, h3, h4⟩ := h
  refine ⟨fun i hi => ?_, fun i hi => ?_, fun i hi => ?_, h4⟩
  · rw [upd_n _ _ (show i ≠ z by omega)]
    by_cases e : i + 1 = z
    · rw [e, upd_s]
      rcases hr.2 with q | q
      · omega
      · have := Int32.lt_iff_toInt_lt.mp q
        rw [show z - 1 = i by omega] at this; exact this
    · rw [upd_n _ _ e]; exact h1 i (by omega)
  · by_cases e : i = z
    · rw [e, upd_s]; exact hv
    · rw [upd_n _ _ e]; exact h2 i (by omega)
  · by_cases e : i = z
    · rw [e, upd_s]; exact hy
    · rw [upd_n _ _ e]; exact h3 i (by omega)
set_option maxHeartbeats 1000000 in
theorem lw_row {kk : Nat} {v y q : Int32} (h : lwI cn ov sta stl n wz bz lr lp sc zz FP FN AB HE PO SX R RB MR MP AF BE FO SE WF WG BF LF LG LP OU sn LR LQ CE RO RH RP IO w) (hk : kk < cn) (hr : lnRoom 8 (LF kk) (zz kk) v) (hv : (-5000) ≤ v ∧ v ≤ nI 5000) (hy : nI 0 ≤ y ∧ y ≤ nI 100000) (hq : nI 0 ≤ q ∧ q ≤ nI 100000) :
    lwI cn ov sta 36 n wz bz lr lp sc (va_up zz kk (zz kk + 1)) FP FN AB HE PO SX R RB MR MP AF BE FO SE WF WG BF (va_up LF kk (upd (LF kk) (zz kk) v)) (va_up LG kk (upd (LG kk) (zz kk) y)) (va_up LP kk (upd (LP kk) (zz kk) q)) OU sn LR LQ CE (upd RO (8 * kk + zz kk) v) (upd RH (8 * kk + zz kk) y) (upd RP (8 * kk + zz kk) q) IO (w.1, w.2.1, w.2.2.1, 0, w.2.2.2.2) := by
  obtain ⟨⟨i1, i2, i3, i4, i5⟩, hP, hb0, ⟨l1, l2, l3, l4⟩, ⟨r1, r2, r3, r4⟩, c1, c2, hf⟩ := h
  have hz8 := hr.1
  refine ⟨⟨i1, i2, i3, i4, i5⟩, plP_new hP hP.2.2.2.2.2.2.1 (Nat.le_refl 36) (by omega) (fun h a b => by omega) hP.2.1.2.2.2.2.1 hP.2.1.2.2.2.2.2.1, hb0, ⟨fun k => ?_, l2, l3, l4⟩, ⟨fun k j hk3 hj => ?_, r2, r3, r4⟩, c1, c2, fd_forget hf⟩
  · by_cases e : k = kk
    · subst e
      rw [va_up_self, va_up_self, va_up_self, va_up_self]
      exact ⟨lnG_more (l1 k).1 hr (v5 hv) (v0 (M := 100000) (by omega) hy), lnG_more (l1 k).2.1 hr (v5 hv) (v0 (M := 100000) (by omega) hq), by omega⟩
    · rw [va_up_ne _ _ e, va_up_ne _ _ e, va_up_ne _ _ e, va_up_ne _ _ e]; exact l1 k
  · by_cases e : k = kk
    · subst e
      rw [va_up_self, va_up_self, va_up_self]
      by_cases e2 : j = zz k
      · subst e2
        rw [upd_s, upd_s, upd_s, upd_s, upd_s, upd_s]; exact ⟨rfl, rfl, rfl⟩
      · have e3 : 8 * k + j ≠ 8 * k + zz k := by omega
        rw [upd_n _ _ e3, upd_n _ _ e3, upd_n _ _ e3, upd_n _ _ e2, upd_n _ _ e2, upd_n _ _ e2]; exact r1 k j hk3 hj
    · have e3 : 8 * k + j ≠ 8 * kk + zz kk := by omega
      rw [va_up_ne _ _ e, va_up_ne _ _ e, va_up_ne _ _ e, upd_n _ _ e3, upd_n _ _ e3, upd_n _ _ e3]; exact r1 k j hk3 hj
theorem stl_up {a h : Nat} (ha : a ≤ 36) (hh : h < 36) : a ≤ (if a < h + 1 then h + 1 else a) ∧ (if a < h + 1 then h + 1 else a) ≤ 36 ∧ 0 < (if a < h + 1 then h + 1 else a) ∧ h < (if a < h + 1 then h + 1 else a) := by split <;> omega
theorem gM_at {OU OU' : Nat → Nat → Int32} {gh gh' : Nat → Nat → Option Nat} {h : Nat} (h1 : ∀ k, OU k h = OU' k h) (h2 : gh h = gh' h) : gM OU gh h = gM OU' gh' h := by
  funext k
  show (if OU k h = 0 then gh h k else none) = (if OU' k h = 0 then gh' h k else none)
  rw [h1 k, h2]
theorem lw_hour0 {h : Nat} {v : Int32} (hI : lwI cn ov sta stl n wz bz lr lp sc zz FP FN AB HE PO SX R RB MR MP AF BE FO SE WF WG BF LF LG LP OU sn LR LQ CE RO RH RP IO w) (hh : h < 36)  :
    lwI cn ov sta (if stl < h + 1 then h + 1 else stl) n wz bz lr lp sc zz FP FN AB HE PO SX R RB MR MP AF BE (upd FO h v) SE WF WG BF LF LG LP OU sn LR LQ CE RO RH RP IO (w.1, w.2.1, w.2.2.1, 0, w.2.2.2.2) := by
  obtain ⟨i, hP, hb0, l, r, c1, c2, hf⟩ := hI
  obtain ⟨a1, a2, a3, a4⟩ := stl_up hP.2.2.2.2.2.2.1 hh
  refine ⟨i, plP_new hP a1 a2 a3 (fun j b c => ?_) hP.2.1.2.2.2.2.1 hP.2.1.2.2.2.2.2.1, hb0, l, r, c1, c2, fd_forget hf⟩
  have e : j ≠ h := by omega
  have e2 : upd FO h v j = FO j := upd_n _ _ e
  refine ⟨gM_at (fun _ => rfl) ?_, gM_at (fun _ => rfl) ?_, rfl, rfl⟩
  · funext k; show gvO _ _ _ (FO j) 0 = gvO _ _ _ (upd FO h v j) 0; rw [e2]
  · funext k; show gvO _ _ _ (FO j) 1 = gvO _ _ _ (upd FO h v j) 1; rw [e2]
theorem lw_hour1 {h : Nat} {y : Nat} (hI : lwI cn ov sta stl n wz bz lr lp sc zz FP FN AB HE PO SX R RB MR MP AF BE FO SE WF WG BF LF LG LP OU sn LR LQ CE RO RH RP IO w) (hh : h < 36) (hy : y ≤ 1000) :
    lwI cn ov sta (if stl < h + 1 then h + 1 else stl) n wz bz lr lp sc zz (va_up FP h y) FN AB HE PO SX R RB MR MP AF BE FO SE WF WG BF LF LG LP OU sn LR LQ CE RO RH RP IO (w.1, w.2.1, w.2.2.1, 0, w.2.2.2.2) := by
  obtain ⟨i, hP, hb0, l, r, c1, c2, hf⟩ := hI
  obtain ⟨a1, a2, a3, a4⟩ := stl_up hP.2.2.2.2.2.2.1 hh
  refine ⟨i, plP_new hP a1 a2 a3 (fun j b c => ?_) (up4 hP.2.1.2.2.2.2.1 hy) hP.2.1.2.2.2.2.2.1, hb0, l, r, c1, c2, fd_forget hf⟩
  have e : j ≠ h := by omega
  exact ⟨rfl, rfl, (va_up_ne _ _ e).symm, rfl⟩
theorem lw_hour2 {h : Nat} {y : Nat} (hI : lwI cn ov sta stl n wz bz lr lp sc zz FP FN AB HE PO SX R RB MR MP AF BE FO SE WF WG BF LF LG LP OU sn LR LQ CE RO RH RP IO w) (hh : h < 36) (hy : y ≤ 100000) :
    lwI cn ov sta (if stl < h + 1 then h + 1 else stl) n wz bz lr lp sc zz FP (va_up FN h y) AB HE PO SX R RB MR MP AF BE FO SE WF WG BF LF LG LP OU sn LR LQ CE RO RH RP IO (w.1, w.2.1, w.2.2.1, 0, w.2.2.2.2) := by
  obtain ⟨i, hP, hb0, l, r, c1, c2, hf⟩ := hI
  obtain ⟨a1, a2, a3, a4⟩ := stl_up hP.2.2.2.2.2.2.1 hh
  refine ⟨i, plP_new hP a1 a2 a3 (fun j b c => ?_) hP.2.1.2.2.2.2.1 (up4 hP.2.1.2.2.2.2.2.1 hy), hb0, l, r, c1, c2, fd_forget hf⟩
  have e : j ≠ h := by omega
  exact ⟨rfl, rfl, rfl, (va_up_ne _ _ e).symm⟩
theorem lw_out {h kk : Nat} {is : Int32} (hI : lwI cn ov sta stl n wz bz lr lp sc zz FP FN AB HE PO SX R RB MR MP AF BE FO SE WF WG BF LF LG LP OU sn LR LQ CE RO RH RP IO w) (hh : h < 36) (hk : kk < cn) (his : is = 0 ∨ is = 1) :
    lwI cn ov sta (if stl < h + 1 then h + 1 else stl) n wz bz lr lp sc zz FP FN AB HE PO SX R RB MR MP AF BE FO SE WF WG BF LF LG LP (va_up OU kk (upd (OU kk) h is)) sn LR LQ CE RO RH RP (upd IO (36 * kk + h) is) (w.1, w.2.1, w.2.2.1, 0, w.2.2.2.2) := by
  obtain ⟨i, hP, hb0, l, ⟨r1, r2, r3, r4⟩, c1, c2, hf⟩ := hI
  obtain ⟨a1, a2, a3, a4⟩ := stl_up hP.2.2.2.2.2.2.1 hh
  have hupd : ∀ j, j ≠ h → ∀ k, OU k j = va_up OU kk (upd (OU kk) h is) k j := by
    intro j e k
    by_cases e2 : k = kk
    · rw [e2, va_up_self, upd_n _ _ e]
    · rw [va_up_ne _ _ e2]
  refine ⟨i, plP_new hP a1 a2 a3 (fun j b c => ?_) hP.2.1.2.2.2.2.1 hP.2.1.2.2.2.2.2.1, hb0, l, ⟨r1, fun k j hk3 hj => ?_, fun k j => ?_, fun j => ?_⟩, c1, c2, fd_forget hf⟩
  · have e : j ≠ h := by omega
    exact ⟨gM_at (hupd j e) rfl, gM_at (hupd j e) rfl, rfl, rfl⟩
  · by_cases e2 : k = kk
    · subst e2
      rw [va_up_self]
      by_cases e : j = h
      · rw [e, upd_s, upd_s]
      · rw [upd_n _ _ e, upd_n _ _ (show 36 * k + j ≠ 36 * k + h by omega)]; exact r2 k j hk3 hj
    · rw [va_up_ne _ _ e2, upd_n _ _ (show 36 * k + j ≠ 36 * kk + h by omega)]; exact r2 k j hk3 hj
  · by_cases e2 : k = kk
    · subst e2
      rw [va_up_self]
      by_cases e : j = h
      · rw [e, upd_s]; exact his
      · rw [upd_n _ _ e]; exact r3 k j
    · rw [va_up_ne _ _ e2]; exact r3 k j
  · by_cases e : j = 36 * kk + h
    · rw [e, upd_s]; exact his
    · rw [upd_n _ _ e]; exact r4 j
theorem lw_corner {v y : Int32} (h : lwI cn ov sta stl n wz bz lr lp sc zz FP FN AB HE PO SX R RB MR MP AF BE FO SE WF WG BF LF LG LP OU sn LR LQ CE RO RH RP IO w) (hr : lnRoom 6 WF wz v) (hv : (-5000) ≤ v ∧ v ≤ nI 5000) (hy : nI 0 ≤ y ∧ y ≤ nI 10000) : lwI cn ov sta stl n (wz + 1) bz lr lp sc zz FP FN AB HE PO SX R RB MR MP AF BE FO SE (upd WF wz v) (upd WG wz y) BF LF LG LP OU sn LR LQ CE RO RH RP IO w :=
  ⟨h.1, h.2.1, h.2.2.1, h.2.2.2.1, h.2.2.2.2.1, ⟨lnG_more h.2.2.2.2.2.1.1 hr (v5 hv) (v0 (M := 10000) (by omega) hy), by have := hr.1; omega⟩, h.2.2.2.2.2.2.1, h.2.2.2.2.2.2.2⟩
theorem lw_ground {v : Int32} (h : lwI cn ov sta stl n wz bz lr lp sc zz FP FN AB HE PO SX R RB MR MP AF BE FO SE WF WG BF LF LG LP OU sn LR LQ CE RO RH RP IO w) (hz : bz < 36) (hv : nI 0 ≤ v ∧ v ≤ nI 1000) : lwI cn ov sta stl n wz (bz + 1) lr lp sc zz FP FN AB HE PO SX R RB MR MP AF BE FO SE WF WG (upd BF bz v) LF LG LP OU sn LR LQ CE RO RH RP IO w := by
  refine ⟨h.1, h.2.1, h.2.2.1, h.2.2.2.1, h.2.2.2.2.1, h.2.2.2.2.2.1, ⟨by omega, fun i hi => ?_⟩, h.2.2.2.2.2.2.2⟩
  by_cases e : i = bz
  · rw [e, upd_s]; exact (v0 (by omega) hv).1
  · rw [upd_n _ _ e]; exact h.2.2.2.2.2.2.1.2 i (by omega)
end INV2
