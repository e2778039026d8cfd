/-! what holds between the class and the reference, call after call -/
theorem gvR_congr {F F' G G' : Nat → Int32} {z : Nat} {x up r : Int32} (h : ∀ i, i < z → F i = F' i ∧ G i = G' i) (hg : gvR F G z x up r) : gvR F' G' z x up r := by
  rcases hg with ⟨j, hj, e, hr⟩ | ⟨j, hj, e1, e2, hr⟩ | ⟨hr, hn⟩
  · exact Or.inl ⟨j, hj, by rw [← (h j hj).1]; exact e, by rw [← (h j hj).2]; exact hr⟩
  · refine Or.inr (Or.inl ⟨j, hj, by rw [← (h j (by omega)).1]; exact e1, by rw [← (h (j + 1) hj).1]; exact e2, ?_⟩)
    rw [hr]; unfold gvB
    rw [(h j (by omega)).1, (h j (by omega)).2, (h (j + 1) hj).1, (h (j + 1) hj).2]
  · refine Or.inr (Or.inr ⟨hr, fun i hi => ?_⟩)
    have := hn i hi
    refine ⟨by rw [← (h i hi).1]; exact this.1, fun q => this.2 ⟨q.1, ?_, ?_⟩⟩
    · rw [(h i hi).1]; exact q.2.1
    · rw [(h (i + 1) q.1).1]; exact q.2.2
noncomputable def ghL (LF LG : Nat → Nat → Int32) (zz : Nat → Nat) (FO : Nat → Int32) : Nat → Nat → Option Nat := fun h k => gvO (LF k) (LG k) (zz k) (FO h) 0
noncomputable def gpL (LF LP : Nat → Nat → Int32) (zz : Nat → Nat) (FO : Nat → Int32) : Nat → Nat → Option Nat := fun h k => gvO (LF k) (LP k) (zz k) (FO h) 1
theorem Vp_congr {g q g' q' : Nat → Nat → Option Nat} {lr lp sc FP FN FP' FN' : Nat → Nat} {cn lo : Nat} (h : ∀ h, lo ≤ h → h < 36 → g h = g' h ∧ q h = q' h ∧ FP h = FP' h ∧ FN h = FN' h) : ∀ t, t ≤ 36 - lo → ∀ st, Vp g q lr lp sc cn FP FN t st = Vp g' q' lr lp sc cn FP' FN' t st
  | 0, _, _ => rfl
  | t + 1, ht, st => by
    show bPu (g (35 - t)) (q (35 - t)) lr lp sc cn (FP (35 - t)) (FN (35 - t)) (Vp g q lr lp sc cn FP FN t) st = bPu (g' (35 - t)) (q' (35 - t)) lr lp sc cn (FP' (35 - t)) (FN' (35 - t)) (Vp g' q' lr lp sc cn FP' FN' t) st
    obtain ⟨a, b, c, d⟩ := h (35 - t) (by omega) (by omega)
    have e : Vp g q lr lp sc cn FP FN t = Vp g' q' lr lp sc cn FP' FN' t := funext (fun s => Vp_congr h t (by omega) s)
    rw [a, b, c, d, e]
theorem plP_new {g q g' q' : Nat → Nat → Option Nat} {lr lp sc FP FN FP' FN' : Nat → Nat} {cn n ov sta stl stl' : Nat} {R RB MR MP AF SX AB HE PO : Nat → Nat} {BE : Nat → Option Nat} {SE : Nat → Int32} (h : plP g q lr lp sc cn n ov sta stl FP FN R RB MR MP AF SX AB HE PO BE SE) (h1 : stl ≤ stl') (h2 : stl' ≤ 36) (h3 : 0 < stl')
    (hs : ∀ h, stl' ≤ h → h < 36 → g h = g' h ∧ q h = q' h ∧ FP h = FP' h ∧ FN h = FN' h) (b1 : ∀ j, FP' j ≤ 1000) (b2 : ∀ j, FN' j ≤ 100000) : plP g' q' lr lp sc cn n ov sta stl' FP' FN' R RB MR MP AF SX AB HE PO BE SE := by
  obtain ⟨k1, ⟨p1, p2, p3, p4, p5, p6, p7⟩, k3, k4, k5, k6, k7, k8, k9⟩ := h
  refine ⟨k1, ⟨p1, p2, p3, p4, b1, b2, p7⟩, k3, k4, fun h a b c => ?_, k6, h2, k8, fun z => by omega⟩
  obtain ⟨⟨r1, r2, r3⟩, r4⟩ := k5 h (by omega) b c
  obtain ⟨e1, e2, -, -⟩ := hs h a c
  refine ⟨⟨by rw [← e1]; exact r1, fun x hx => by rw [← e1]; exact r2 x hx, fun x hx => by rw [← e2]; exact r3 x hx⟩, fun st hst => ?_⟩
  rw [r4 st hst]; exact Vp_congr (lo := stl') hs (36 - h) (by omega) st
def lwI (cn ov sta stl n wz bz : Nat) (lr lp sc zz FP FN AB HE PO SX R RB MR MP AF : Nat → Nat) (BE : Nat → Option Nat) (FO SE WF WG BF : Nat → Int32) (LF LG LP OU : Nat → Nat → Int32) (sn : Nat) (LR LQ CE : Nat → Nat) (RO RH RP IO : Nat → Int32) (w : fdS) : Prop :=
  (cn ≤ 3 ∧ sn < 512 ∧ (ov = 0 → sn = 219) ∧ sta = KA lr lp sn cn ∧ n ≤ 8 ^ cn) ∧
  plP (gM OU (ghL LF LG zz FO)) (gM OU (gpL LF LP zz FO)) lr lp sc cn n ov sta stl FP FN R RB MR MP AF SX AB HE PO BE SE ∧ bxI R RB MR MP AF ∧
  ((∀ k, lnG (LF k) (LG k) (zz k) 100000 ∧ lnG (LF k) (LP k) (zz k) 100000 ∧ zz k ≤ 8) ∧ (∀ k, sc k ≤ 100000) ∧ (∀ k, k < cn → LR k = lr k ∧ LQ k = lp k ∧ CE k = sc k) ∧ ∀ k, (LR k ≤ 4 ∧ LQ k ≤ 4) ∧ CE k ≤ 100000) ∧
  ((∀ k j, k < 3 → j < 8 → RO (8 * k + j) = LF k j ∧ RH (8 * k + j) = LG k j ∧ RP (8 * k + j) = LP k j) ∧ (∀ k h, k < 3 → h < 36 → IO (36 * k + h) = OU k h) ∧ (∀ k j, OU k j = 0 ∨ OU k j = 1) ∧ ∀ j, IO j = 0 ∨ IO j = 1) ∧
  (lnG WF WG wz 10000 ∧ wz ≤ 6) ∧ (bz ≤ 36 ∧ ∀ i, i < bz → 0 ≤ (BF i).toInt) ∧
  fdI (mayM IO (ghL LF LG zz FO) LR LQ cn FN) (fun s x => bhR s x 3) (coM (gpL LF LP zz FO) CE FP cn) (2 ^ cn) ov sn w
section INV
variable {cn ov sta stl n wz bz : Nat} {lr lp sc zz FP FN AB HE PO SX R RB MR MP AF : Nat → Nat} {BE : Nat → Option Nat} {FO SE WF WG BF : Nat → Int32} {LF LG LP OU : Nat → Nat → Int32} {sn : Nat} {LR LQ CE : Nat → Nat} {RO RH RP IO : Nat → Int32} {w : fdS}
theorem lw_gi (h : lwI cn ov sta stl n wz bz lr lp sc zz FP FN AB HE PO SX R RB MR MP AF BE FO SE WF WG BF LF LG LP OU sn LR LQ CE RO RH RP IO w) : ∀ h j, giI (LF j) (LG j) (LP j) (zz j) (FO h) (ghL LF LG zz FO h j) (gpL LF LP zz FO h j) := fun h' j => giI_of (h.2.2.2.1.1 j).1 (h.2.2.2.1.1 j).2.1
theorem lw_ns (h : lwI cn ov sta stl n wz bz lr lp sc zz FP FN AB HE PO SX R RB MR MP AF BE FO SE WF WG BF LF LG LP OU sn LR LQ CE RO RH RP IO w) : ∀ h k, ghL LF LG zz FO h k = none ↔ gpL LF LP zz FO h k = none := fun h' k => (lw_gi h h' k).2.2.1
theorem lw_gb (h : lwI cn ov sta stl n wz bz lr lp sc zz FP FN AB HE PO SX R RB MR MP AF BE FO SE WF WG BF LF LG LP OU sn LR LQ CE RO RH RP IO w) : ∀ h k v, ghL LF LG zz FO h k = some v → v ≤ 100000 := fun h' k => (lw_gi h h' k).2.2.2.1
theorem lw_qb (h : lwI cn ov sta stl n wz bz lr lp sc zz FP FN AB HE PO SX R RB MR MP AF BE FO SE WF WG BF LF LG LP OU sn LR LQ CE RO RH RP IO w) : ∀ h k v, gpL LF LP zz FO h k = some v → v ≤ 100000 := fun h' k => (lw_gi h h' k).2.2.2.2
theorem lw_gm (h : lwI cn ov sta stl n wz bz lr lp sc zz FP FN AB HE PO SX R RB MR MP AF BE FO SE WF WG BF LF LG LP OU sn LR LQ CE RO RH RP IO w) : ∀ h, h < 36 → ∀ k, k < cn → gmR zz RO RH RP (FO h) k (ghL LF LG zz FO h k) (gpL LF LP zz FO h k) := by
  intro h' _ k hk
  have hc := h.1.1
  obtain ⟨a, b, c⟩ := h.2.2.2.1.1 k
  have hx := lnX_at (LF k) (zz k) (FO h')
  have gi := lw_gi h h' k
  refine ⟨fun r hr => ?_, fun r hr => ?_⟩
  · rw [← gi.1 _ hx]
    refine gv_ln a (Or.inl rfl) hx (gvR_congr (fun i hi => ?_) hr)
    have := h.2.2.2.2.1.1 k i (by omega) (by omega)
    exact ⟨this.1, by rw [if_pos rfl]; exact this.2.1⟩
  · rw [← gi.2.1 _ hx]
    refine gv_ln b (Or.inr rfl) hx (gvR_congr (fun i hi => ?_) hr)
    have := h.2.2.2.2.1.1 k i (by omega) (by omega)
    exact ⟨this.1, by rw [if_neg (by decide)]; exact this.2.2⟩
theorem lw_rl (h : lwI cn ov sta stl n wz bz lr lp sc zz FP FN AB HE PO SX R RB MR MP AF BE FO SE WF WG BF LF LG LP OU sn LR LQ CE RO RH RP IO w) : rlI cn lr lp sc LR LQ CE FP FN FP FN OU IO := ⟨h.2.2.2.1.2.2.1, h.2.2.2.2.1.2.1, rfl, rfl⟩
/-- a plan that the class has looked at again -/
theorem lw_pl {AB' HE' PO' : Nat → Nat} {BE' : Nat → Option Nat} {SE' : Nat → Int32} {w' : fdS} (h : lwI cn ov sta stl n wz bz lr lp sc zz FP FN AB HE PO SX R RB MR MP AF BE FO SE WF WG BF LF LG LP OU sn LR LQ CE RO RH RP IO w)
    (hP : plP (gM OU (ghL LF LG zz FO)) (gM OU (gpL LF LP zz FO)) lr lp sc cn n ov sta 0 FP FN R RB MR MP AF SX AB' HE' PO' BE' SE') (hw : fdI (mayM IO (ghL LF LG zz FO) LR LQ cn FN) (fun s x => bhR s x 3) (coM (gpL LF LP zz FO) CE FP cn) (2 ^ cn) ov sn w') : lwI cn ov sta 0 n wz bz lr lp sc zz FP FN AB' HE' PO' SX R RB MR MP AF BE' FO SE' WF WG BF LF LG LP OU sn LR LQ CE RO RH RP IO w' :=
  ⟨h.1, hP, h.2.2.1, h.2.2.2.1, h.2.2.2.2.1, h.2.2.2.2.2.1, h.2.2.2.2.2.2.1, hw⟩
/-- the reference forgets its plan -/
theorem fd_forget {may may' : Nat → Nat → Nat → Bool} {nx nx' : Nat → Nat → Nat} {co co' : Nat → Nat → Nat → Nat} {B B' ov' sn' : Nat} (h : fdI may nx co B ov sn w) : fdI may' nx' co' B' ov' sn' (w.1, w.2.1, w.2.2.1, 0, w.2.2.2.2) := ⟨h.1, Nat.zero_le 1, h.2.2.1, fun q => absurd (show (0 : Nat) = 1 from q) (by decide)⟩
end INV
