/-! starts, and hours that pass, of class and reference -/
theorem st_same {S PA : Nat → Nat} {b0 kk ov : Nat} (hk : kk < 3) (hb : b0 < 8) : ∀ T, (∀ i, i < T → PA (ov + i) = S i ∧ S i < 8) → csA S b0 kk T = stC PA kk (on b0 kk) ov T ∧ on (bfA S b0 T) kk = stB PA kk (on b0 kk) ov T ∧ bfA S b0 T < 8
  | 0, _ => ⟨rfl, rfl, hb⟩
  | T + 1, h => by
    obtain ⟨i1, i2, i3⟩ := st_same hk hb T (fun i hi => h i (by omega))
    obtain ⟨e, l⟩ := h T (by omega)
    refine ⟨?_, ?_, l⟩
    · show csA S b0 kk T + (dif (S T) (bfA S b0 T) / 2 ^ kk &&& 1) = stC PA kk (on b0 kk) ov T + (if on (PA (ov + T)) kk && !stB PA kk (on b0 kk) ov T then 1 else 0)
      have o := on_dif (S T) l (bfA S b0 T) i3 kk hk
      rw [i1, and1, e, ← i2]
      rw [← o]
      unfold on
      have : dif (S T) (bfA S b0 T) / 2 ^ kk % 2 < 2 := Nat.mod_lt _ (by omega)
      by_cases w : dif (S T) (bfA S b0 T) / 2 ^ kk % 2 = 1
      · rw [w]; simp
      · rw [show dif (S T) (bfA S b0 T) / 2 ^ kk % 2 = 0 by omega]; simp
    · show on (S T) kk = on (PA (ov + T)) kk
      rw [e]
theorem pset_add (BE : Nat → Option Nat) (AF : Nat → Nat) (ov sta j i : Nat) : pset BE AF (ov + j) (pst BE AF ov sta j) i = pset BE AF ov sta (j + i) := by
  unfold pset
  rw [pst_add, show ov + j + i = ov + (j + i) by omega]
theorem rnR_first {may : Nat → Nat → Nat → Bool} {nx : Nat → Nat → Nat} {co : Nat → Nat → Nat → Nat} {B : Nat} {he : Nat → Nat → Nat} {nd : Nat → Nat} {pw : Nat → Nat → Nat} {ov sn : Nat} {SU : Nat → Int64} {RN : Nat → Int32} : ∀ {j s S N}, rnR may nx co B he nd pw ov sn SU RN (j + 1) s S N → ∃ xs, isB may nx co B ov sn (36 - ov) xs
  | 0, s, S, N, h => by
    obtain ⟨s0, S0, N0, x, xs, ⟨e, -, -⟩, h1, h2, -⟩ := h
    rw [e] at h2
    exact ⟨_, h2⟩
  | j + 1, s, S, N, h => by
    obtain ⟨s0, S0, N0, x, xs, h0, -⟩ := h
    exact rnR_first h0
section RUN
variable {cn : Nat} {lr lp sc LR LP CE FP FN PR NE : Nat → Nat} {OU : Nat → Nat → Int32} {IO : Nat → Int32} {gh gp : Nat → Nat → Option Nat}
variable {n ov sta sn : Nat} {R RB MR MP AF SX AB HE PO : Nat → Nat} {BE : Nat → Option Nat} {SE : Nat → Int32} {SU : Nat → Int64} {RN : Nat → Int32}
theorem run_same (hP : plP (gM OU gh) (gM OU gp) lr lp sc cn n ov sta 0 FP FN R RB MR MP AF SX AB HE PO BE SE) (hne : ¬ BE (ov * 512 + sta) = none) (hr : rlI cn lr lp sc LR LP CE FP FN PR NE OU IO) (hns : ∀ h k, gh h k = none ↔ gp h k = none) (hs : sta = KA lr lp sn cn) :
    ∀ j, ov + j ≤ 36 → ∀ s S N, rnR (mayM IO gh LR LP cn NE) (fun s x => bhR s x 3) (coM gp CE PR cn) (2 ^ cn) (fun h x => hsR (fun k => cnO (fun j => IO (36 * k + j)) h (gh h k)) x cn) NE (fun h x => hsR (gp h) x cn) ov sn SU RN j s S N →
      pst BE AF ov sta j = KA lr lp s cn ∧ S = toR BE AF HE PO SX FP FN RB ov sta SU j ∧ N = rsR BE AF ov sta RN j
  | 0, _, s, S, N, h => by
    obtain ⟨e1, e2, e3⟩ := h
    exact ⟨by rw [e1]; exact hs, e2, e3⟩
  | j + 1, hj, s, S, N, h => by
    obtain ⟨s0, S0, N0, x, xs, h0, hlt, hB, e1, e2, e3⟩ := h
    obtain ⟨i1, i2, i3⟩ := run_same hP hne hr hns hs j (by omega) s0 S0 N0 h0
    obtain ⟨hPj, hnej⟩ := plP_add hP hne j (by omega)
    obtain ⟨v, hv⟩ := Option.ne_none_iff_exists'.mp hnej
    have hB2 := ((plan_same hPj hr hns i1).2 v hv).1
    have hc := hP.1.1
    have h4 := hP.1.2.2.1
    have h1 := hP.1.2.2.2.1
    have hl := isB_one (p2cn hc).1 hB hB2
    have hx : x = pset BE AF ov sta j := by
      have e := lsP_cons (pset BE AF (ov + j) (pst BE AF ov sta j)) (36 - (ov + j) - 1) 0
      rw [show 36 - (ov + j) - 1 + 1 = 36 - (ov + j) by omega] at e
      rw [e] at hl
      rw [(List.cons.inj hl).1, pset_add]; rfl
    have hmx : mayM IO gh LR LP cn NE (ov + j) s0 x = true := hB.2.1.2.1
    have hx2 : x < 2 ^ cn := hB.2.1.1
    obtain ⟨-, p2, p3, p4, -⟩ := pst_next hP hne (i := j) hlt
    obtain ⟨⟨r1, r2, r3⟩, -⟩ := hP.2.2.2.2.1 (ov + j) (by omega) (by omega) hlt
    have hSX := hP.1.2.2.2.2.2.2.2.2
    refine ⟨?_, ?_, ?_⟩
    · rw [p2, ← hx, i1, e1]; exact (KA_next hc h4 h1 cn (Nat.le_refl cn)).symm
    · rw [e2, i2]
      show _ = toN (toR BE AF HE PO SX FP FN RB ov sta SU j) (PO ((ov + j) * 8 + pset BE AF ov sta j) * FP (ov + j) + SX (dif (pset BE AF ov sta j) (RB (pst BE AF ov sta j)))) (HE ((ov + j) * 8 + pset BE AF ov sta j)) (FN (ov + j)) (PO ((ov + j) * 8 + pset BE AF ov sta j))
      rw [← hx, r2 x hx2, r3 x hx2, p4, hSX (dif x (rbA (pst BE AF ov sta j) cn)) (and_lt2' hx2), i1]
      have a1 := sys_co (gp := gp) hc h4 hr hns (ov + j) s0 x hlt hx2 hmx
      have a2 : hsR (fun k => cnO (fun i => IO (36 * k + i)) (ov + j) (gh (ov + j) k)) x cn = smA (gM OU gh (ov + j)) cn x := by
        rw [hs_sm cn x hx2]; exact hs_congr cn (g_same hc hr hlt)
      have a3 := pw_same hc hr hns hlt hx2 hmx
      rw [a1, hr.2.2.2]
      show toN _ _ (hsR (fun k => cnO (fun i => IO (36 * k + i)) (ov + j) (gh (ov + j) k)) x cn) _ (hsR (gp (ov + j)) x cn) = _
      rw [a2, a3]
    · rw [e3, i3, hx]; rfl
theorem run_end {nn jc jm s : Nat} {S : Nat → Int64} {N : Nat → Int32} (hP : plP (gM OU gh) (gM OU gp) lr lp sc cn n ov sta 0 FP FN R RB MR MP AF SX AB HE PO BE SE) (hr : rlI cn lr lp sc LR LP CE FP FN PR NE OU IO) (hns : ∀ h k, gh h k = none ↔ gp h k = none) (hs : sta = KA lr lp sn cn)
    (hC : (BE (ov * 512 + sta) = none ∧ jc = 0) ∨ (¬ BE (ov * 512 + sta) = none ∧ jc ≤ nn ∧ ov + jc ≤ 36 ∧ (jc = nn ∨ ov + jc = 36))) (h1 : jm ≤ nn) (h2 : ov + jm ≤ 36)
    (hR : rnR (mayM IO gh LR LP cn NE) (fun s x => bhR s x 3) (coM gp CE PR cn) (2 ^ cn) (fun h x => hsR (fun k => cnO (fun j => IO (36 * k + j)) h (gh h k)) x cn) NE (fun h x => hsR (gp h) x cn) ov sn SU RN jm s S N)
    (hM : jm = nn ∨ ov + jm = 36 ∨ ∀ ys : List Nat, ys.length = 36 - (ov + jm) → ¬ okL (mayM IO gh LR LP cn NE) (fun s x => bhR s x 3) (2 ^ cn) (ov + jm) s ys) :
    jm = jc ∧ pst BE AF ov sta jc = KA lr lp s cn ∧ S = toR BE AF HE PO SX FP FN RB ov sta SU jc ∧ N = rsR BE AF ov sta RN jc := by
  rcases hC with ⟨hn, rfl⟩ | ⟨hne, c1, c2, c3⟩
  · have hj : jm = 0 := by
      cases jm with
      | zero => rfl
      | succ j =>
        obtain ⟨xs, hxs⟩ := rnR_first hR
        exact absurd hxs.2.1 ((plan_same hP hr hns hs).1 hn xs hxs.1)
    subst hj
    obtain ⟨e1, e2, e3⟩ := hR
    exact ⟨rfl, by rw [e1]; exact hs, e2, e3⟩
  · obtain ⟨k1, k2, k3⟩ := run_same hP hne hr hns hs jm h2 s S N hR
    have hj : jm = jc := by
      rcases hM with q | q | q
      · omega
      · omega
      · exfalso
        obtain ⟨hPj, hnej⟩ := plP_add hP hne jm h2
        obtain ⟨v, hv⟩ := Option.ne_none_iff_exists'.mp hnej
        have hB2 := ((plan_same hPj hr hns k1).2 v hv).1
        exact q _ hB2.1 hB2.2.1
    subst hj
    exact ⟨rfl, k1, k2, k3⟩
end RUN
