/-! what class and reference answer is the same -/
section RES
variable {cn ov sta stl n wz bz : Nat} {lr lp sc zz FP FN AB HE PO SX R RB MR MP AF : Nat → Nat} {BE : Nat → Option Nat} {FO SE WF WG BF : Nat → Int32} {LF LG LP OU : Nat → Nat → Int32} {sn : Nat} {LR LQ CE : Nat → Nat} {RO RH RP IO : Nat → Int32} {w : fdS}
variable {AB' HE' PO' : Nat → Nat} {BE' : Nat → Option Nat} {SE' : Nat → Int32}
theorem res_some (h : lwI cn ov sta stl n wz bz lr lp sc zz FP FN AB HE PO SX R RB MR MP AF BE FO SE WF WG BF LF LG LP OU sn LR LQ CE RO RH RP IO w) (hP : plP (gM OU (ghL LF LG zz FO)) (gM OU (gpL LF LP zz FO)) lr lp sc cn n ov sta 0 FP FN R RB MR MP AF SX AB' HE' PO' BE' SE') {PA : Nat → Nat} (hB : isB (mayM IO (ghL LF LG zz FO) LR LQ cn FN) (fun s x => bhR s x 3) (coM (gpL LF LP zz FO) CE FP cn) (2 ^ cn) ov sn (36 - ov) (lsP PA ov (36 - ov))) : ∃ v, BE' (ov * 512 + sta) = some v ∧ lsP PA ov (36 - ov) = lsP (pset BE' AF ov sta) 0 (36 - ov) ∧ coL (fun s x => bhR s x 3) (coM (gpL LF LP zz FO) CE FP cn) ov sn (lsP PA ov (36 - ov)) = v / 8 := by
  obtain ⟨p1, p2⟩ := plan_same hP (lw_rl h) (lw_ns h) h.1.2.2.2.1
  cases e : BE' (ov * 512 + sta) with
  | none => exact absurd hB.2.1 (p1 e _ hB.1)
  | some v =>
    obtain ⟨q1, q2⟩ := p2 v e
    have hl := isB_one (p2cn h.1.1).1 hB q1
    exact ⟨v, rfl, hl, by rw [hl]; exact q2⟩
theorem res_none (h : lwI cn ov sta stl n wz bz lr lp sc zz FP FN AB HE PO SX R RB MR MP AF BE FO SE WF WG BF LF LG LP OU sn LR LQ CE RO RH RP IO w) (hP : plP (gM OU (ghL LF LG zz FO)) (gM OU (gpL LF LP zz FO)) lr lp sc cn n ov sta 0 FP FN R RB MR MP AF SX AB' HE' PO' BE' SE') (hN : ∀ ys : List Nat, ys.length = 36 - ov → ¬ okL (mayM IO (ghL LF LG zz FO) LR LQ cn FN) (fun s x => bhR s x 3) (2 ^ cn) ov sn ys) : BE' (ov * 512 + sta) = none := by
  obtain ⟨p1, p2⟩ := plan_same hP (lw_rl h) (lw_ns h) h.1.2.2.2.1
  cases e : BE' (ov * 512 + sta) with
  | none => rfl
  | some v =>
    obtain ⟨q1, q2⟩ := p2 v e
    exact absurd q1.2.1 (hN _ q1.1)
theorem res_cost (h : lwI cn ov sta stl n wz bz lr lp sc zz FP FN AB HE PO SX R RB MR MP AF BE FO SE WF WG BF LF LG LP OU sn LR LQ CE RO RH RP IO w) (hP : plP (gM OU (ghL LF LG zz FO)) (gM OU (gpL LF LP zz FO)) lr lp sc cn n ov sta 0 FP FN R RB MR MP AF SX AB' HE' PO' BE' SE') {u : fdS} {r r' : Int64} (hr : r = oL ((BE' (ov * 512 + sta)).map (· / 8)))
    (hm : (fF u = 1 ∧ isB (mayM IO (ghL LF LG zz FO) LR LQ cn FN) (fun s x => bhR s x 3) (coM (gpL LF LP zz FO) CE FP cn) (2 ^ cn) ov sn (36 - ov) (lsP (fPA u) ov (36 - ov)) ∧ r' = lN (coL (fun s x => bhR s x 3) (coM (gpL LF LP zz FO) CE FP cn) ov sn (lsP (fPA u) ov (36 - ov)))) ∨ (fF u = 0 ∧ (∀ ys : List Nat, ys.length = 36 - ov → ¬ okL (mayM IO (ghL LF LG zz FO) LR LQ cn FN) (fun s x => bhR s x 3) (2 ^ cn) ov sn ys) ∧ r' = -1)) : r = r' := by
  rcases hm with ⟨-, hB, e⟩ | ⟨-, hN, e⟩
  · obtain ⟨v, e1, -, e2⟩ := res_some h hP hB
    rw [hr, e, e1, e2]; rfl
  · rw [hr, e, res_none h hP hN]; rfl
theorem res_planned (h : lwI cn ov sta stl n wz bz lr lp sc zz FP FN AB HE PO SX R RB MR MP AF BE FO SE WF WG BF LF LG LP OU sn LR LQ CE RO RH RP IO w) (hP : plP (gM OU (ghL LF LG zz FO)) (gM OU (gpL LF LP zz FO)) lr lp sc cn n ov sta 0 FP FN R RB MR MP AF SX AB' HE' PO' BE' SE') {u : fdS} {hh : Nat} {r r' : Int32} (h36 : hh < 36) (hr : r = if hh < ov then -1 else SE' hh)
    (hm : (hh < ov ∧ r' = -1) ∨ (ov ≤ hh ∧ fK u = 1 ∧ ((fF u = 1 ∧ isB (mayM IO (ghL LF LG zz FO) LR LQ cn FN) (fun s x => bhR s x 3) (coM (gpL LF LP zz FO) CE FP cn) (2 ^ cn) ov sn (36 - ov) (lsP (fPA u) ov (36 - ov)) ∧ r' = nI (fPA u hh)) ∨ (fF u = 0 ∧ (∀ ys : List Nat, ys.length = 36 - ov → ¬ okL (mayM IO (ghL LF LG zz FO) LR LQ cn FN) (fun s x => bhR s x 3) (2 ^ cn) ov sn ys) ∧ r' = -1)))) : r = r' := by
  rcases hm with ⟨a, e⟩ | ⟨a, -, hm⟩
  · rw [hr, e, if_pos a]
  · rw [if_neg (by omega)] at hr
    have hx : hh = ov + (hh - ov) := by omega
    rcases hm with ⟨-, hB, e⟩ | ⟨-, hN, e⟩
    · obtain ⟨v, e1, e2, -⟩ := res_some h hP hB
      rcases hP.2.2.2.2.2.2.2.2 rfl with ⟨-, q⟩ | ⟨q, -⟩
      · have e3 := lsP_get e2 (hh - ov) (by omega)
        rw [hr, e, hx, q (hh - ov) (by omega), e3, Nat.zero_add]
      · rw [e1] at q; cases q
    · rcases hP.2.2.2.2.2.2.2.2 rfl with ⟨q, -⟩ | ⟨-, q⟩
      · exact absurd (res_none h hP hN) q
      · rw [hr, e, hx]; exact q (hh - ov) (by omega)
theorem res_starts (h : lwI cn ov sta stl n wz bz lr lp sc zz FP FN AB HE PO SX R RB MR MP AF BE FO SE WF WG BF LF LG LP OU sn LR LQ CE RO RH RP IO w) (hP : plP (gM OU (ghL LF LG zz FO)) (gM OU (gpL LF LP zz FO)) lr lp sc cn n ov sta 0 FP FN R RB MR MP AF SX AB' HE' PO' BE' SE') {u : fdS} {kk : Nat} {r r' : Int32} (hk : kk < cn) (hr : (BE' (ov * 512 + sta) = none ∧ r = -1) ∨ (¬ BE' (ov * 512 + sta) = none ∧ r = nI (csA (pset BE' AF ov sta) (RB sta) kk (36 - ov))))
    (hm : (fF u = 1 ∧ isB (mayM IO (ghL LF LG zz FO) LR LQ cn FN) (fun s x => bhR s x 3) (coM (gpL LF LP zz FO) CE FP cn) (2 ^ cn) ov sn (36 - ov) (lsP (fPA u) ov (36 - ov)) ∧ r' = nI (stC (fPA u) kk (decide (4 ≤ dg sn kk)) ov (36 - ov))) ∨ (fF u = 0 ∧ (∀ ys : List Nat, ys.length = 36 - ov → ¬ okL (mayM IO (ghL LF LG zz FO) LR LQ cn FN) (fun s x => bhR s x 3) (2 ^ cn) ov sn ys) ∧ r' = -1)) : r = r' := by
  have hc := h.1.1
  rcases hm with ⟨-, hB, e⟩ | ⟨-, hN, e⟩
  · obtain ⟨v, e1, e2, -⟩ := res_some h hP hB
    rcases hr with ⟨q, -⟩ | ⟨-, hr⟩
    · rw [e1] at q; cases q
    · have hon : on (RB sta) kk = decide (4 ≤ dg sn kk) := by
        obtain ⟨j, hj, hRj⟩ := hP.1.2.2.2.2.2.2.1 sta hP.2.2.2.2.2.2.2.1
        have q := (hP.1.2.2.2.2.2.2.2.1 j hj).1
        rw [hRj] at q
        rw [q, rbA_b, on_bts _ hc hk, h.1.2.2.2.1, KA_dg hP.1.2.2.1 sn cn kk hk]
        exact decide_eq_decide.mpr (cl_ran (hP.1.2.2.1 kk).2)
      have q := (st_same (S := pset BE' AF ov sta) (PA := fPA u) (b0 := RB sta) (kk := kk) (ov := ov) (by omega) (hP.2.1.2.2.2.2.2.2.1 sta) (36 - ov) (fun i hi => ⟨by rw [lsP_get e2 i hi, Nat.zero_add], Nat.mod_lt _ (by omega)⟩)).1
      rw [hr, e, q, hon]
  · rcases hr with ⟨-, hr⟩ | ⟨q, -⟩
    · rw [hr, e]
    · exact absurd (res_none h hP hN) q
theorem lw_run {nn jc jm s : Nat} {TO S : Nat → Int64} {RS N : Nat → Int32} {w' : fdS} (h : lwI cn ov sta stl n wz bz lr lp sc zz FP FN AB HE PO SX R RB MR MP AF BE FO SE WF WG BF LF LG LP OU sn LR LQ CE RO RH RP IO w) (hP : plP (gM OU (ghL LF LG zz FO)) (gM OU (gpL LF LP zz FO)) lr lp sc cn n ov sta 0 FP FN R RB MR MP AF SX AB' HE' PO' BE' SE')
    (hC : (BE' (ov * 512 + sta) = none ∧ jc = 0) ∨ (¬ BE' (ov * 512 + sta) = none ∧ jc ≤ nn ∧ ov + jc ≤ 36 ∧ (jc = nn ∨ ov + jc = 36))) (h1 : jm ≤ nn) (h2 : ov + jm ≤ 36) (h3 : s < 512)
    (hR : rnR (mayM IO (ghL LF LG zz FO) LR LQ cn FN) (fun s x => bhR s x 3) (coM (gpL LF LP zz FO) CE FP cn) (2 ^ cn) (fun h x => hsR (fun k => cnO (fun j => IO (36 * k + j)) h (ghL LF LG zz FO h k)) x cn) FN (fun h x => hsR (gpL LF LP zz FO h) x cn) ov sn TO RS jm s S N)
    (hF : fdI (mayM IO (ghL LF LG zz FO) LR LQ cn FN) (fun s x => bhR s x 3) (coM (gpL LF LP zz FO) CE FP cn) (2 ^ cn) (ov + jm) s w')
    (hM : jm = nn ∨ ov + jm = 36 ∨ (∀ ys : List Nat, ys.length = 36 - (ov + jm) → ¬ okL (mayM IO (ghL LF LG zz FO) LR LQ cn FN) (fun s x => bhR s x 3) (2 ^ cn) (ov + jm) s ys)) :
    jm = jc ∧ S = toR BE' AF HE' PO' SX FP FN RB ov sta TO jc ∧ N = rsR BE' AF ov sta RS jc ∧ lwI cn (ov + jc) (pst BE' AF ov sta jc) 0 n wz bz lr lp sc zz FP FN AB' HE' PO' SX R RB MR MP AF BE' FO SE' WF WG BF LF LG LP OU s LR LQ CE RO RH RP IO w' := by
  obtain ⟨e1, e2, e3, e4⟩ := run_end hP (lw_rl h) (lw_ns h) h.1.2.2.2.1 hC h1 h2 hR hM
  subst e1
  refine ⟨rfl, e3, e4, ⟨h.1.1, h3, fun z => ?_, e2, h.1.2.2.2.2⟩, ?_, h.2.2.1, h.2.2.2.1, h.2.2.2.2.1, h.2.2.2.2.2.1, h.2.2.2.2.2.2.1, hF⟩
  · have : jm = 0 := by omega
    subst this
    rw [hR.1]; exact h.1.2.2.1 (by omega)
  · rcases hC with ⟨-, z⟩ | ⟨z, -, q, -⟩
    · subst z; exact hP
    · exact (plP_add hP z jm q).1
theorem res_gives (h : lwI cn ov sta stl n wz bz lr lp sc zz FP FN AB HE PO SX R RB MR MP AF BE FO SE WF WG BF LF LG LP OU sn LR LQ CE RO RH RP IO w) {kk q : Nat} {v r r' : Int32} (hk : kk < cn)
    (hr : (q = 0 ∧ ∃ i, lnAt (LF kk) (zz kk) v i ∧ r = lnRes (LF kk) (LG kk) (zz kk) v 0 i) ∨ (q = 1 ∧ ∃ i, lnAt (LF kk) (zz kk) v i ∧ r = lnRes (LF kk) (LP kk) (zz kk) v 1 i))
    (hm : (q = 0 ∧ gvR (fun j => RO (8 * kk + j)) (fun j => if (0 : Int32) = 0 then RH (8 * kk + j) else RP (8 * kk + j)) (zz kk) v 0 r') ∨ (q = 1 ∧ gvR (fun j => RO (8 * kk + j)) (fun j => if (1 : Int32) = 0 then RH (8 * kk + j) else RP (8 * kk + j)) (zz kk) v 1 r')) : r = r' := by
  have hc := h.1.1
  obtain ⟨a, b, c⟩ := h.2.2.2.1.1 kk
  rcases hr with ⟨z, i, hi, e⟩ | ⟨z, i, hi, e⟩
  · rcases hm with ⟨-, hm⟩ | ⟨z2, -⟩
    · rw [e]
      refine (gv_ln a (Or.inl rfl) hi (gvR_congr (fun i hi => ?_) hm)).symm
      have := h.2.2.2.2.1.1 kk i (by omega) (by omega)
      exact ⟨this.1, by rw [if_pos rfl]; exact this.2.1⟩
    · omega
  · rcases hm with ⟨z2, -⟩ | ⟨-, hm⟩
    · omega
    · rw [e]
      refine (gv_ln b (Or.inr rfl) hi (gvR_congr (fun i hi => ?_) hm)).symm
      have := h.2.2.2.2.1.1 kk i (by omega) (by omega)
      exact ⟨this.1, by rw [if_neg (by decide)]; exact this.2.2⟩
theorem res_curve (h : lwI cn ov sta stl n wz bz lr lp sc zz FP FN AB HE PO SX R RB MR MP AF BE FO SE WF WG BF LF LG LP OU sn LR LQ CE RO RH RP IO w) {v r r' : Int32} (hr : (wz = 0 ∧ r = -1) ∨ (0 < wz ∧ ∃ i, lnAt WF wz (lnHold WF wz v) i ∧ r = lnRes WF WG wz (lnHold WF wz v) 0 i)) (hm : cvR WF WG wz v r') : r = r' := by
  rcases hr with ⟨z, e⟩ | ⟨z, i, hi, e⟩
  · rcases hm with ⟨-, e2⟩ | ⟨j, hj, -⟩
    · rw [e, e2]
    · omega
  · rw [e]; exact (cv_ln h.2.2.2.2.2.1.1 z hi hm).symm
theorem ne_curve (h : lwI cn ov sta stl n wz bz lr lp sc zz FP FN AB HE PO SX R RB MR MP AF BE FO SE WF WG BF LF LG LP OU sn LR LQ CE RO RH RP IO w) : ∀ j, j + 1 < wz → ¬ (WF (j + 1) - WF j).toInt64 = 0 := by
  intro j hj
  obtain ⟨⟨a, b, -⟩, -⟩ := h.2.2.2.2.2.1
  have h1 := a j hj
  have h2 := b j (by omega)
  have h3 := b (j + 1) hj
  refine l_ne0 ?_
  rw [Int32.lt_iff_toInt_lt, Int32.toInt_sub, show (0 : Int32).toInt = 0 from by decide]
  rw [show ((WF (j + 1)).toInt - (WF j).toInt).bmod (2 ^ 32) = (WF (j + 1)).toInt - (WF j).toInt from Int.bmod_eq_of_le (by omega) (by omega)]
  omega
theorem gr_iff (h : lwI cn ov sta stl n wz bz lr lp sc zz FP FN AB HE PO SX R RB MR MP AF BE FO SE WF WG BF LF LG LP OU sn LR LQ CE RO RH RP IO w) {v : Int32} : (bhLast BF bz ≤ v ∧ v ≤ nI 1000) ↔ ((nI 0 ≤ v ∧ v ≤ nI 1000) ∧ (bz = 0 ∨ BF (bz - 1) ≤ v)) := by
  unfold bhLast
  by_cases z : bz = 0
  · rw [if_pos z]
    exact ⟨fun q => ⟨q, Or.inl z⟩, fun q => q.1⟩
  · rw [if_neg z]
    have h0 := h.2.2.2.2.2.2.1.2 (bz - 1) (by omega)
    constructor
    · intro q
      refine ⟨⟨?_, q.2⟩, Or.inr q.1⟩
      have := Int32.le_iff_toInt_le.mp q.1
      rw [Int32.le_iff_toInt_le, nI_T (by omega)]; omega
    · rintro ⟨q, q2 | q2⟩
      · omega
      · exact ⟨q2, q.2⟩
end RES
def w0 : fdS := ((fun _ => 0, fun _ => 0, fun _ => false, fun _ => 0, fun _ => 0, fun _ => false, fun _ => 0, fun _ => 0, fun _ => 0, fun _ => false, fun _ => 0), fun _ => 0, 0, 0, 0)
theorem lw_start : lwI 0 0 0 36 1 0 0 (fun _ => 1) (fun _ => 1) (fun _ => 0) (fun _ => 0) (f10 36) (fun _ => 0) (fun _ => 0) (fun _ => 0) (fun _ => 0) (fun _ => 0) (fun _ => 0) (fun _ => 0) (fun _ => 0) (fun _ => 0) (fun _ => 0) (fun _ => some 0) (fun _ => 0) (fun _ => 0) (fun _ => 0) (fun _ => 0) (fun _ => 0) (fun _ _ => 0) (fun _ _ => 0) (fun _ _ => 0) (fun _ _ => 0) 219 (fun _ => 0) (fun _ => 0) (fun _ => 0) (fun _ => 0) (fun _ => 0) (fun _ => 0) (fun _ => 0) w0 := by
  have hg : ∀ z : Nat, ∀ M : Int, M ≤ 100000 → z = 0 → lnG (fun _ => 0) (fun _ => 0) z M := fun z M hM hz => ⟨fun i hi => by first | omega | (dsimp only; omega) | decide, fun i hi => by first | omega | (dsimp only; omega) | decide, fun i hi => by first | omega | (dsimp only; omega) | decide, hM⟩
  have hf : ∀ j, f10 36 j ≤ 1000 := fun j => by unfold f10; split <;> omega
  have hrel : ∀ st, RelS (fun _ => 1) (fun _ => 1) 0 st → st = 0 := fun st h => by have h1 : st < 1 := h.1; omega
  refine ⟨⟨by first | omega | (dsimp only; omega) | decide, by first | omega | (dsimp only; omega) | decide, fun _ => rfl, rfl, Nat.le_refl 1⟩, ⟨⟨by first | omega | (dsimp only; omega) | decide, by first | omega | (dsimp only; omega) | decide, fun _ => ⟨by first | omega | (dsimp only; omega) | decide, by first | omega | (dsimp only; omega) | decide⟩, fun j hj => by first | omega | (dsimp only; omega) | decide, fun _ => by first | omega | (dsimp only; omega) | decide, fun j _ => ⟨Nat.one_pos, fun k hk => by first | omega | (dsimp only; omega) | decide⟩, fun st h => ⟨0, by first | omega | (dsimp only; omega) | decide, (hrel st h).symm⟩, fun j _ => ⟨rfl, rfl, rfl, fun x _ => rfl⟩, fun x _ => rfl⟩, ⟨fun _ => by first | omega | (dsimp only; omega) | decide, fun _ => by first | omega | (dsimp only; omega) | decide, fun _ => by first | omega | (dsimp only; omega) | decide, fun _ => by first | omega | (dsimp only; omega) | decide, hf, fun _ => by first | omega | (dsimp only; omega) | decide, fun _ => by first | omega | (dsimp only; omega) | decide, fun _ => by first | omega | (dsimp only; omega) | decide, fun _ => by first | omega | (dsimp only; omega) | decide, fun _ => by first | omega | (dsimp only; omega) | decide⟩, fun x v hv => ?_, fun _ _ => rfl, fun h a b c => by first | omega | (dsimp only; omega) | decide, by first | omega | (dsimp only; omega) | decide, by first | omega | (dsimp only; omega) | decide, ⟨Nat.one_pos, fun k hk => by first | omega | (dsimp only; omega) | decide⟩, fun z => by first | omega | (dsimp only; omega) | decide⟩, ⟨fun _ => by first | omega | (dsimp only; omega) | decide, fun _ => by first | omega | (dsimp only; omega) | decide, fun _ => by first | omega | (dsimp only; omega) | decide, fun _ => by first | omega | (dsimp only; omega) | decide, fun _ => by first | omega | (dsimp only; omega) | decide⟩,
    ⟨fun k => ⟨hg 0 _ (by first | omega | (dsimp only; omega) | decide) rfl, hg 0 _ (by first | omega | (dsimp only; omega) | decide) rfl, by first | omega | (dsimp only; omega) | decide⟩, fun _ => by first | omega | (dsimp only; omega) | decide, fun k hk => by first | omega | (dsimp only; omega) | decide, fun k => ⟨⟨by first | omega | (dsimp only; omega) | decide, by first | omega | (dsimp only; omega) | decide⟩, by first | omega | (dsimp only; omega) | decide⟩⟩, ⟨fun _ _ _ _ => ⟨rfl, rfl, rfl⟩, fun _ _ _ _ => rfl, fun _ _ => Or.inl rfl, fun _ => Or.inl rfl⟩, ⟨hg 0 _ (by first | omega | (dsimp only; omega) | decide) rfl, by first | omega | (dsimp only; omega) | decide⟩, ⟨by first | omega | (dsimp only; omega) | decide, fun i hi => by first | omega | (dsimp only; omega) | decide⟩, ⟨⟨fun _ => by show 0 < 4096; omega, fun _ => by show 0 ≤ 10810800000; omega, fun _ => by show 0 < 4096; omega⟩, Nat.zero_le 1, Nat.zero_le 1, fun q => absurd (show (0 : Nat) = 1 from q) (by decide)⟩⟩
  cases hv; exact Nat.zero_le _
