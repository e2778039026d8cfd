/-! one plan for class and reference -/
theorem keL_inj : ∀ {xs ys : List Nat}, xs.length = ys.length → (∀ x ∈ xs, x < 8) → (∀ y ∈ ys, y < 8) → keL xs = keL ys → xs = ys
  | [], [], _, _, _, _ => rfl
  | [], y :: ys, h, _, _, _ => by simp at h
  | x :: xs, [], h, _, _, _ => by simp at h
  | x :: xs, y :: ys, h, hx, hy, hk => by
    have hl : xs.length = ys.length := by simpa using h
    have a := keL_lt (xs := xs) (fun z hz => hx z (List.mem_cons_of_mem _ hz))
    have b := keL_lt (xs := ys) (fun z hz => hy z (List.mem_cons_of_mem _ hz))
    rw [keL_cons, keL_cons, hl] at hk
    rw [hl] at a
    have e : x = y := by
      rcases Nat.lt_trichotomy x y with q | q | q
      · have := Nat.mul_le_mul_right (8 ^ ys.length) (show x + 1 ≤ y from q)
        rw [Nat.add_mul, Nat.one_mul] at this; omega
      · exact q
      · have := Nat.mul_le_mul_right (8 ^ ys.length) (show y + 1 ≤ x from q)
        rw [Nat.add_mul, Nat.one_mul] at this; omega
    subst e
    rw [keL_inj hl (fun z hz => hx z (List.mem_cons_of_mem _ hz)) (fun z hz => hy z (List.mem_cons_of_mem _ hz)) (by omega)]
theorem isB_one {may : Nat → Nat → Nat → Bool} {nx : Nat → Nat → Nat} {co : Nat → Nat → Nat → Nat} {B h st T : Nat} {xs ys : List Nat} (hB : B ≤ 8) (h1 : isB may nx co B h st T xs) (h2 : isB may nx co B h st T ys) : xs = ys := by
  have a := h1.2.2 ys h2.1 h2.2.1
  have b := h2.2.2 xs h1.1 h1.2.1
  exact keL_inj (h1.1.trans h2.1.symm) (okL_all hB h1.2.1) (okL_all hB h2.2.1) (by omega)
theorem lsP_get {PA PB : Nat → Nat} {a b : Nat} : ∀ {T : Nat}, lsP PA a T = lsP PB b T → ∀ i, i < T → PA (a + i) = PB (b + i)
  | 0, _, i, hi => by omega
  | T + 1, h, i, hi => by
    have h' : lsP PA a T ++ [PA (a + T)] = lsP PB b T ++ [PB (b + T)] := h
    obtain ⟨e1, e2⟩ := List.append_inj h' (by rw [lsP_len, lsP_len])
    rcases Nat.lt_or_ge i T with q | q
    · exact lsP_get e1 i q
    · rw [show i = T by omega]; exact (List.cons.inj e2).1
section PLN
variable {g q : Nat → Nat → Option Nat} {lr lp sc FP FN : Nat → Nat} {cn n ov sta : Nat} {R RB MR MP AF SX AB HE PO : Nat → Nat} {BE : Nat → Option Nat} {SE : Nat → Int32}
/-- what the class holds of an hour and a state is worth -/
theorem BE_V (hP : plP g q lr lp sc cn n ov sta 0 FP FN R RB MR MP AF SX AB HE PO BE SE) : BE (ov * 512 + sta) = Vp g q lr lp sc cn FP FN (36 - ov) sta := by
  obtain ⟨h1, h2, h3, h4, h5, h6, h7, h8, h9⟩ := hP
  rcases Nat.lt_or_ge ov 36 with z | z
  · exact (h5 ov (by omega) (Nat.le_refl _) z).2 sta h8
  · have e : ov = 36 := by omega
    subst e
    rw [h4 sta (RelS_lt h1.1 h8)]; rfl
theorem pst_next (hP : plP g q lr lp sc cn n ov sta 0 FP FN R RB MR MP AF SX AB HE PO BE SE) (hne : ¬ BE (ov * 512 + sta) = none) {i : Nat} (hi : ov + i < 36) : pset BE AF ov sta i < 2 ^ cn ∧ pst BE AF ov sta (i + 1) = nxA lr lp (pst BE AF ov sta i) (pset BE AF ov sta i) cn ∧ RelS lr lp cn (pst BE AF ov sta i) ∧ RB (pst BE AF ov sta i) = rbA (pst BE AF ov sta i) cn ∧ BE ((ov + i) * 512 + pst BE AF ov sta i) = Vp g q lr lp sc cn FP FN (36 - (ov + i)) (pst BE AF ov sta i) := by
  obtain ⟨h1, h2, h3, h4, h5, h6, h7, h8, h9⟩ := hP
  obtain ⟨k1, v, k2⟩ := lay_ok h1 h5 h4 h8 hne i (by omega)
  have hV := (h5 (ov + i) (by omega) (by omega) hi).2 _ k1
  have hV0 := hV
  rw [k2, show 36 - (ov + i) = (35 - (ov + i)) + 1 by omega] at hV
  obtain ⟨hc, hn, hlr, hlp, hR, hRr, hRs, hok, hSX⟩ := h1
  obtain ⟨hx, -⟩ := Vp_step hc hV.symm
  have ep : pset BE AF ov sta i = v % 8 := by unfold pset; rw [k2]; rfl
  obtain ⟨j, hj, hRj⟩ := hRs _ k1
  obtain ⟨o1, -, -, o4⟩ := hok j hj
  rw [hRj] at o1 o4
  refine ⟨by rw [ep]; exact hx, ?_, k1, o1, hV0⟩
  show AF (pst BE AF ov sta i * 8 + pset BE AF ov sta i) = _
  rw [ep]; exact o4 _ hx
theorem pset_bl (hP : plP g q lr lp sc cn n ov sta 0 FP FN R RB MR MP AF SX AB HE PO BE SE) (hne : ¬ BE (ov * 512 + sta) = none) : ∀ T i, ov + i + T = 36 → lsP (pset BE AF ov sta) i T = blV g q lr lp sc cn FP FN T (pst BE AF ov sta i)
  | 0, _, _ => rfl
  | T + 1, i, hT => by
    obtain ⟨a, b, c, -, d⟩ := pst_next hP hne (i := i) (by omega)
    rw [lsP_cons, pset_bl hP hne T (i + 1) (by omega), b]
    have e : (Vp g q lr lp sc cn FP FN (T + 1) (pst BE AF ov sta i)).getD 0 % 8 = pset BE AF ov sta i := by
      unfold pset
      rw [d, show 36 - (ov + i) = T + 1 by omega]
    show _ = (Vp g q lr lp sc cn FP FN (T + 1) (pst BE AF ov sta i)).getD 0 % 8 :: blV g q lr lp sc cn FP FN T (nxA lr lp (pst BE AF ov sta i) ((Vp g q lr lp sc cn FP FN (T + 1) (pst BE AF ov sta i)).getD 0 % 8) cn)
    rw [e]
end PLN
abbrev mayM (IO : Nat → Int32) (gh : Nat → Nat → Option Nat) (LR LP : Nat → Nat) (cn : Nat) (NE : Nat → Nat) : Nat → Nat → Nat → Bool := fun h => mayR (fun k => cnO (fun j => IO (36 * k + j)) h (gh h k)) LR LP cn (NE h)
abbrev coM (gp : Nat → Nat → Option Nat) (CE PR : Nat → Nat) (cn : Nat) : Nat → Nat → Nat → Nat := fun h s x => ctR (gp h) CE (PR h) s x cn
abbrev gM (OU : Nat → Nat → Int32) (gh : Nat → Nat → Option Nat) : Nat → Nat → Option Nat := fun h j => cnO (OU j) h (gh h j)
/-- class and reference hold the same of machines and hours -/
def rlI (cn : Nat) (lr lp sc LR LP CE FP FN PR NE : Nat → Nat) (OU : Nat → Nat → Int32) (IO : Nat → Int32) : Prop := (∀ k, k < cn → LR k = lr k ∧ LP k = lp k ∧ CE k = sc k) ∧ (∀ k h, k < 3 → h < 36 → IO (36 * k + h) = OU k h) ∧ PR = FP ∧ NE = FN
theorem hs_congr {g g' : Nat → Option Nat} {x : Nat} : ∀ c, (∀ k, k < c → g k = g' k) → hsR g x c = hsR g' x c
  | 0, _ => rfl
  | c + 1, h => by
    show hsR g x c + _ = hsR g' x c + _
    rw [hs_congr c (fun k hk => h k (by omega)), h c (by omega)]
section SYS
variable {cn : Nat} {lr lp sc LR LP CE FP FN PR NE : Nat → Nat} {OU : Nat → Nat → Int32} {IO : Nat → Int32} {gh gp : Nat → Nat → Option Nat}
theorem g_same (hc : cn ≤ 3) (hr : rlI cn lr lp sc LR LP CE FP FN PR NE OU IO) {h : Nat} (hh : h < 36) : ∀ k, k < cn → cnO (fun j => IO (36 * k + j)) h (gh h k) = gM OU gh h k := by
  intro k hk
  show (if IO (36 * k + h) = 0 then gh h k else none) = (if OU k h = 0 then gh h k else none)
  rw [hr.2.1 k h (by omega) hh]
theorem sys_may (hc : cn ≤ 3) (h4 : ∀ k, lr k ≤ 4 ∧ lp k ≤ 4) (h1 : ∀ k, k < cn → 1 ≤ lr k ∧ 1 ≤ lp k) (hr : rlI cn lr lp sc LR LP CE FP FN PR NE OU IO) : ∀ h s x, h < 36 → x < 8 → ((x < 2 ^ cn ∧ mayM IO gh LR LP cn NE h s x = true) ↔ ((∃ i, i < 2 ^ bcN (feP (gM OU gh h) cn (KA lr lp s cn)) ∧ x = muP (gM OU gh h) cn (KA lr lp s cn) ||| prt (feP (gM OU gh h) cn (KA lr lp s cn)) i) ∧ FN h ≤ smA (gM OU gh h) cn x)) := by
  intro h s x hh hx
  have hg := g_same (gh := gh) hc hr hh
  rw [may_same hc hx h4 h1]
  have e1 : gdR (fun k => cnO (fun j => IO (36 * k + j)) h (gh h k)) LR LP s x cn = true ↔ gdR (gM OU gh h) lr lp s x cn = true := by
    rw [gd_iff, gd_iff]
    refine forall_congr' (fun k => imp_congr_right (fun hk => ?_))
    rw [hg k hk, (hr.1 k hk).1, (hr.1 k hk).2.1]
  have e2 := hs_congr (x := x) cn hg
  show (x < 2 ^ cn ∧ (gdR (fun k => cnO (fun j => IO (36 * k + j)) h (gh h k)) LR LP s x cn && decide (NE h ≤ hsR (fun k => cnO (fun j => IO (36 * k + j)) h (gh h k)) x cn)) = true) ↔ _
  rw [Bool.and_eq_true, decide_eq_true_eq, e1, e2, hr.2.2.2]
  constructor
  · rintro ⟨a, b, c⟩; exact ⟨⟨a, b⟩, by rw [hs_sm cn x a]; exact c⟩
  · rintro ⟨⟨a, b⟩, c⟩; exact ⟨a, b, by rw [hs_sm cn x a] at c; exact c⟩
theorem q_same (hc : cn ≤ 3) (hr : rlI cn lr lp sc LR LP CE FP FN PR NE OU IO) (hns : ∀ h k, gh h k = none ↔ gp h k = none) {h s x : Nat} (hh : h < 36) (hm : mayM IO gh LR LP cn NE h s x = true) : ∀ k, k < cn → on x k = true → gM OU gp h k = gp h k ∧ (gp h k).isSome = true := by
  intro k hk ho
  have a := may_g hm k hk ho
  have a' : (cnO (fun j => IO (36 * k + j)) h (gh h k)).isSome = true := a
  rw [g_same hc hr hh k hk] at a'
  have b := may_on (hns h) hm k hk ho
  refine ⟨?_, b⟩
  have a'' : (if OU k h = 0 then gh h k else none).isSome = true := a'
  show (if OU k h = 0 then gp h k else none) = gp h k
  by_cases z : OU k h = 0
  · rw [if_pos z]
  · rw [if_neg z] at a''; cases a''
theorem sys_co (hc : cn ≤ 3) (h4 : ∀ k, lr k ≤ 4 ∧ lp k ≤ 4) (hr : rlI cn lr lp sc LR LP CE FP FN PR NE OU IO) (hns : ∀ h k, gh h k = none ↔ gp h k = none) : ∀ h s x, h < 36 → x < 2 ^ cn → mayM IO gh LR LP cn NE h s x = true → coM gp CE PR cn h s x = smA (gM OU gp h) cn x * FP h + smA (fun k => some (sc k)) cn (dif x (rbA (KA lr lp s cn) cn)) := by
  intro h s x hh hx hm
  show ctR (gp h) CE (PR h) s x cn = _
  rw [hr.2.2.1]
  exact co_same hc hx h4 (q_same hc hr hns hh hm) (fun k hk => (hr.1 k hk).2.2)
theorem pw_same (hc : cn ≤ 3) (hr : rlI cn lr lp sc LR LP CE FP FN PR NE OU IO) (hns : ∀ h k, gh h k = none ↔ gp h k = none) {h s x : Nat} (hh : h < 36) (hx : x < 2 ^ cn) (hm : mayM IO gh LR LP cn NE h s x = true) : hsR (gp h) x cn = smA (gM OU gp h) cn x := by
  rw [hs_sm cn x hx]
  have key : ∀ c, c ≤ cn → hsR (gp h) x c = hsR (gM OU gp h) x c := by
    intro c
    induction c with
    | zero => intro _; rfl
    | succ c ih =>
      intro hcc
      show hsR (gp h) x c + (if on x c && (gp h c).isSome then (gp h c).getD 0 else 0) = hsR (gM OU gp h) x c + (if on x c && (gM OU gp h c).isSome then (gM OU gp h c).getD 0 else 0)
      rw [ih (by omega)]
      cases ho : on x c with
      | false => simp
      | true => rw [(q_same hc hr hns hh hm c (by omega) ho).1]
  exact key cn (Nat.le_refl cn)
/-- the plan of both -/
theorem plan_same {n ov sta sn : Nat} {R RB MR MP AF SX AB HE PO : Nat → Nat} {BE : Nat → Option Nat} {SE : Nat → Int32} (hP : plP (gM OU gh) (gM OU gp) lr lp sc cn n ov sta 0 FP FN R RB MR MP AF SX AB HE PO BE SE) (hr : rlI cn lr lp sc LR LP CE FP FN PR NE OU IO) (hns : ∀ h k, gh h k = none ↔ gp h k = none) (hs : sta = KA lr lp sn cn) :
    (BE (ov * 512 + sta) = none → ∀ ys : List Nat, ys.length = 36 - ov → ¬ okL (mayM IO gh LR LP cn NE) (fun s x => bhR s x 3) (2 ^ cn) ov sn ys) ∧
    ∀ v, BE (ov * 512 + sta) = some v → isB (mayM IO gh LR LP cn NE) (fun s x => bhR s x 3) (coM gp CE PR cn) (2 ^ cn) ov sn (36 - ov) (lsP (pset BE AF ov sta) 0 (36 - ov)) ∧ coL (fun s x => bhR s x 3) (coM gp CE PR cn) ov sn (lsP (pset BE AF ov sta) 0 (36 - ov)) = v / 8 := by
  have hV := BE_V hP
  have h6 : ov ≤ 36 := hP.2.2.2.2.2.1
  obtain ⟨hc, hn, h4, h1, -⟩ := hP.1
  have hb := Vp_best hc h4 h1 (sys_may (gh := gh) hc h4 h1 hr) (sys_co (gp := gp) hc h4 hr hns) (36 - ov) (by omega) sn
  rw [show 36 - (36 - ov) = ov by omega, ← hs, ← hV] at hb
  refine ⟨hb.1, fun v hv => ?_⟩
  have hne : ¬ BE (ov * 512 + sta) = none := by rw [hv]; simp
  rw [pset_bl hP hne (36 - ov) 0 (by omega)]
  exact hb.2 v hv
end SYS
