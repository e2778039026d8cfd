/-! the class's plan is the reference's best -/
theorem mk3_k (f : Nat → Bool) {k : Nat} (hk : k < 3) : mk3 (f 0) (f 1) (f 2) k = f k := by
  rcases (show k = 0 ∨ k = 1 ∨ k = 2 by omega) with rfl | rfl | rfl <;> rfl
theorem try_iff {g : Nat → Option Nat} {cn st x : Nat} (hc : cn ≤ 3) (hx : x < 8) : (∃ i, i < 2 ^ bcN (feP g cn st) ∧ x = muP g cn st ||| prt (feP g cn st) i) ↔ x < 2 ^ cn ∧ ∀ k, k < cn → alB (g k).isSome (decide (4 ≤ dg st k ∧ dg st k ≠ 4)) (decide (¬ 4 ≤ dg st k ∧ dg st k ≠ 0)) (on x k) = true := by
  have h := try_all (g 0).isSome (g 1).isSome (g 2).isSome (decide (4 ≤ dg st 0 ∧ dg st 0 ≠ 4)) (decide (4 ≤ dg st 1 ∧ dg st 1 ≠ 4)) (decide (4 ≤ dg st 2 ∧ dg st 2 ≠ 4)) (decide (¬ 4 ≤ dg st 0 ∧ dg st 0 ≠ 0)) (decide (¬ 4 ≤ dg st 1 ∧ dg st 1 ≠ 0)) (decide (¬ 4 ≤ dg st 2 ∧ dg st 2 ≠ 0))
  have h1 := List.all_eq_true.mp h cn (List.mem_range.mpr (by omega))
  have h2 := List.all_eq_true.mp h1 x (List.mem_range.mpr hx)
  have ex : ∀ k, (decide (4 ≤ dg st k ∧ dg st k ≠ 4) && decide (¬ 4 ≤ dg st k ∧ dg st k ≠ 0)) = false := by
    intro k
    by_cases q : 4 ≤ dg st k
    · simp [q]
    · simp [q]
  rw [ex 0, ex 1, ex 2] at h2
  have h3 := (Bool.or_eq_true_iff.mp h2).resolve_left (by decide)
  have h4 := beq_iff_eq.mp h3
  rw [← bts_3 (fun k => (g k).isSome) hc, ← bts_3 (fun k => decide (4 ≤ dg st k ∧ dg st k ≠ 4)) hc, ← bts_3 (fun k => decide (¬ 4 ≤ dg st k ∧ dg st k ≠ 0)) hc, ← abA_b, ← mrA_b, ← mpA_b] at h4
  have h5 : tryB (muP g cn st) (feP g cn st) x = _ := h4
  have l1 : tryB (muP g cn st) (feP g cn st) x = true ↔ ∃ i, i < 2 ^ bcN (feP g cn st) ∧ x = muP g cn st ||| prt (feP g cn st) i := by
    unfold tryB
    rw [List.any_eq_true]
    constructor
    · rintro ⟨i, a, b⟩; exact ⟨i, List.mem_range.mp a, of_decide_eq_true b⟩
    · rintro ⟨i, a, b⟩; exact ⟨i, List.mem_range.mpr a, decide_eq_true b⟩
  rw [← l1, h5, Bool.and_eq_true, decide_eq_true_eq, List.all_eq_true]
  refine and_congr_right (fun _ => ⟨fun q k hk => ?_, fun q k hk => ?_⟩)
  · have := q k (List.mem_range.mpr hk)
    rw [mk3_k (fun k => (g k).isSome) (by omega), mk3_k (fun k => decide (4 ≤ dg st k ∧ dg st k ≠ 4)) (by omega), mk3_k (fun k => decide (¬ 4 ≤ dg st k ∧ dg st k ≠ 0)) (by omega)] at this
    exact this
  · have hk := List.mem_range.mp hk
    rw [mk3_k (fun k => (g k).isSome) (by omega), mk3_k (fun k => decide (4 ≤ dg st k ∧ dg st k ≠ 4)) (by omega), mk3_k (fun k => decide (¬ 4 ≤ dg st k ∧ dg st k ≠ 0)) (by omega)]
    exact q k hk
theorem alR_cl {g : Option Nat} {a b s : Nat} (ha : 1 ≤ a ∧ a ≤ 4) (hb : 1 ≤ b ∧ b ≤ 4) (hs : s < 8) (o : Bool) : alR g a b s o = alB g.isSome (decide (4 ≤ cl a b s ∧ cl a b s ≠ 4)) (decide (¬ 4 ≤ cl a b s ∧ cl a b s ≠ 0)) o := by
  have key : ∀ (gs o : Bool), ∀ a, a < 5 → ∀ b, b < 5 → ∀ s, s < 8 → 1 ≤ a → 1 ≤ b → (if gs then (if o then !decide (s < 4 ∧ s % 4 + 1 < b) else !decide (4 ≤ s ∧ s % 4 + 1 < a)) else !o) = alB gs (decide (4 ≤ cl a b s ∧ cl a b s ≠ 4)) (decide (¬ 4 ≤ cl a b s ∧ cl a b s ≠ 0)) o := by decide +kernel
  exact key g.isSome o a (by omega) b (by omega) s hs ha.1 hb.1
theorem gd_iff {g : Nat → Option Nat} {lr lp : Nat → Nat} {s x : Nat} : ∀ c, gdR g lr lp s x c = true ↔ ∀ k, k < c → alR (g k) (lr k) (lp k) (dg s k) (on x k) = true
  | 0 => ⟨fun _ k h => by omega, fun _ => rfl⟩
  | c + 1 => by
    show (gdR g lr lp s x c && alR (g c) (lr c) (lp c) (dg s c) (on x c)) = true ↔ _
    rw [Bool.and_eq_true, gd_iff c]
    constructor
    · rintro ⟨h1, h2⟩ k hk
      rcases Nat.lt_or_ge k c with q | q
      · exact h1 k q
      · rw [show k = c by omega]; exact h2
    · exact fun h => ⟨fun k hk => h k (by omega), h c (by omega)⟩
theorem may_same {g : Nat → Option Nat} {lr lp : Nat → Nat} {cn s x : Nat} (hc : cn ≤ 3) (hx : x < 8) (h4 : ∀ k, lr k ≤ 4 ∧ lp k ≤ 4) (h1 : ∀ k, k < cn → 1 ≤ lr k ∧ 1 ≤ lp k) : (∃ i, i < 2 ^ bcN (feP g cn (KA lr lp s cn)) ∧ x = muP g cn (KA lr lp s cn) ||| prt (feP g cn (KA lr lp s cn)) i) ↔ x < 2 ^ cn ∧ gdR g lr lp s x cn = true := by
  rw [try_iff hc hx, gd_iff]
  refine and_congr_right (fun _ => forall_congr' (fun k => ?_))
  refine imp_congr_right (fun hk => ?_)
  rw [KA_dg h4 s cn k hk, alR_cl ⟨(h1 k hk).1, (h4 k).1⟩ ⟨(h1 k hk).2, (h4 k).2⟩ (dg_lt _ _)]
theorem on_lt {x k : Nat} (h : x < 2 ^ k) : on x k = false := by
  unfold on; rw [Nat.div_eq_of_lt h]; rfl
theorem on_ge {x k : Nat} (h1 : 2 ^ k ≤ x) (h2 : x < 2 ^ (k + 1)) : on x k = true := by
  unfold on
  have hp : 0 < 2 ^ k := Nat.pow_pos (by omega)
  have e : x / 2 ^ k = 1 := by
    rw [Nat.pow_succ] at h2
    exact Nat.div_eq_of_lt_le (by omega) (by omega)
  rw [e]; rfl
theorem on_low {y k j : Nat} (hj : j < k) : on (2 ^ k + y) j = on y j := by
  unfold on
  have e : 2 ^ k = 2 ^ j * (2 * 2 ^ (k - j - 1)) := by
    rw [← Nat.pow_succ', ← Nat.pow_add]; congr 1; omega
  rw [e, Nat.add_comm, Nat.add_mul_div_left _ _ (Nat.pow_pos (by omega)), Nat.add_mul_mod_self_left]
theorem hs_low {g : Nat → Option Nat} {y k : Nat} : ∀ j, j ≤ k → hsR g (2 ^ k + y) j = hsR g y j
  | 0, _ => rfl
  | j + 1, h => by
    show hsR g (2 ^ k + y) j + _ = hsR g y j + _
    rw [hs_low j (by omega), on_low (by omega)]
theorem hs_sm {g : Nat → Option Nat} : ∀ c x, x < 2 ^ c → smA g c x = hsR g x c
  | 0, _, _ => rfl
  | k + 1, x, hx => by
    show (if x < 2 ^ k then smA g k x else smA g k (x - 2 ^ k) + (g k).getD 0) = hsR g x k + (if on x k && (g k).isSome then (g k).getD 0 else 0)
    by_cases q : x < 2 ^ k
    · rw [if_pos q, on_lt q, hs_sm k x q]; simp
    · have e : x = 2 ^ k + (x - 2 ^ k) := by omega
      have hy : x - 2 ^ k < 2 ^ k := by rw [Nat.pow_succ] at hx; omega
      rw [if_neg q, on_ge (by omega) hx, hs_sm k _ hy]
      have h2 : hsR g x k = hsR g (x - 2 ^ k) k := by
        rw [e, hs_low k (Nat.le_refl k)]
        congr 1; omega
      rw [h2]
      cases h : g k <;> simp
theorem on_bts (f : Nat → Bool) {c k : Nat} (hc : c ≤ 3) (hk : k < c) : on (bts f c) k = f k := by
  have key : ∀ a b d : Bool, ∀ c, c < 4 → ∀ k, k < 3 → k < c → on (bts (mk3 a b d) c) k = mk3 a b d k := by decide +kernel
  rw [bts_3 f hc, key _ _ _ c (by omega) k (by omega) hk, mk3_k f (by omega)]
theorem bts_lt (f : Nat → Bool) {c : Nat} (hc : c ≤ 3) : bts f c < 8 := by
  have key : ∀ a b d : Bool, ∀ c, c < 4 → bts (mk3 a b d) c < 8 := by decide +kernel
  rw [bts_3 f hc]; exact key _ _ _ c (by omega)
theorem on_dif : ∀ x, x < 8 → ∀ r, r < 8 → ∀ k, k < 3 → on (dif x r) k = (on x k && !on r k) := by decide +kernel
theorem co_same {q q2 : Nat → Option Nat} {lr lp sc ce : Nat → Nat} {cn s x pr : Nat} (hc : cn ≤ 3) (hx : x < 2 ^ cn) (h4 : ∀ k, lr k ≤ 4 ∧ lp k ≤ 4) (hq : ∀ k, k < cn → on x k = true → q k = q2 k ∧ (q2 k).isSome = true) (hce : ∀ k, k < cn → ce k = sc k) :
    ctR q2 ce pr s x cn = smA q cn x * pr + smA (fun k => some (sc k)) cn (dif x (rbA (KA lr lp s cn) cn)) := by
  have hx8 : x < 8 := Nat.lt_of_lt_of_le hx (p2cn hc).1
  have hz : dif x (rbA (KA lr lp s cn) cn) < 2 ^ cn := and_lt2' hx
  rw [hs_sm cn x hx, hs_sm cn _ hz]
  have hon : ∀ k, k < cn → on (dif x (rbA (KA lr lp s cn) cn)) k = (on x k && decide (dg s k < 4)) := by
    intro k hk
    rw [rbA_b, on_dif x hx8 _ (bts_lt _ hc) k (by omega), on_bts _ hc hk, KA_dg h4 s cn k hk]
    congr 1
    have := cl_ran (a := lr k) (b := lp k) (s := dg s k) (h4 k).2
    by_cases w : 4 ≤ dg s k
    · rw [decide_eq_true (this.mpr w), decide_eq_false (by omega)]; rfl
    · rw [decide_eq_false (fun z => w (this.mp z)), decide_eq_true (by omega)]; rfl
  generalize dif x (rbA (KA lr lp s cn) cn) = z at hon
  have key : ∀ c, c ≤ cn → ctR q2 ce pr s x c = hsR q x c * pr + hsR (fun k => some (sc k)) z c := by
    intro c
    induction c with
    | zero => intro _; show 0 = 0 * pr + 0; omega
    | succ c ih =>
      intro hcc
      have i1 := ih (by omega)
      show ctR q2 ce pr s x c + (if on x c then (q2 c).getD 0 * pr else 0) + (if on x c && decide (dg s c < 4) then ce c else 0) = (hsR q x c + (if on x c && (q c).isSome then (q c).getD 0 else 0)) * pr + (hsR (fun k => some (sc k)) z c + (if on z c && (some (sc c)).isSome then (some (sc c)).getD 0 else 0))
      rw [hon c (by omega), i1, hce c (by omega)]
      cases ho : on x c with
      | false => simp
      | true =>
        obtain ⟨a, b⟩ := hq c (by omega) ho
        rw [a, b, Nat.add_mul]
        by_cases w : dg s c < 4
        · simp [w]; omega
        · simp [w]; omega
  exact key cn (Nat.le_refl cn)
/-! the least choice, the least list -/
theorem bcF_none {ch : Nat → Option Nat} {mu fe : Nat} : ∀ n, bcF ch mu fe n = none → ∀ i, i < n → ch (mu ||| prt fe i) = none
  | 0, _, i, hi => by omega
  | n + 1, hn, i, hi => by
    have hn' : omin (bcF ch mu fe n) (ch (mu ||| prt fe n)) = none := hn
    cases a : bcF ch mu fe n with
    | none => rcases Nat.lt_or_ge i n with z | z
              · exact bcF_none n a i z
              · rw [a] at hn'; rw [show i = n by omega]; exact hn'
    | some b => rw [a] at hn'; cases c : ch (mu ||| prt fe n) <;> rw [c] at hn' <;> simp [omin] at hn' <;> split at hn' <;> cases hn'
theorem bcF_min {ch : Nat → Option Nat} {mu fe v : Nat} : ∀ n, bcF ch mu fe n = some v → ∀ i, i < n → ∀ w, ch (mu ||| prt fe i) = some w → v ≤ w
  | 0, h => by cases h
  | n + 1, h => by
    intro i hi w hw
    have h' : omin (bcF ch mu fe n) (ch (mu ||| prt fe n)) = some v := h
    cases h1 : bcF ch mu fe n with
    | none =>
      rw [h1] at h'
      have h2 : ch (mu ||| prt fe n) = some v := h'
      rcases Nat.lt_or_ge i n with q | q
      · exfalso
        rw [bcF_none n h1 i q] at hw; cases hw
      · rw [show i = n by omega, h2] at hw; cases hw; exact Nat.le_refl _
    | some b =>
      have ih := bcF_min n h1
      rw [h1] at h'
      rcases Nat.lt_or_ge i n with q | q
      · have hb := ih i q w hw
        cases h2 : ch (mu ||| prt fe n) with
        | none => rw [h2] at h'; cases h'; exact hb
        | some c =>
          rw [h2] at h'; simp only [omin] at h'
          split at h'
          · cases h'; omega
          · cases h'; exact hb
      · rw [show i = n by omega] at hw
        rw [hw] at h'; simp only [omin] at h'
        split at h'
        · cases h'; exact Nat.le_refl _
        · cases h'; omega
theorem keF_val : ∀ (xs : List Nat) (a : Nat), keF a xs = a * 8 ^ xs.length + keL xs
  | [], a => by show a = a * 1 + 0; omega
  | x :: xs, a => by
    show keF (8 * a + x) xs = a * 8 ^ (xs.length + 1) + keF (8 * 0 + x) xs
    rw [keF_val xs (8 * a + x), keF_val xs (8 * 0 + x), Nat.pow_succ, Nat.add_mul, Nat.mul_zero, Nat.zero_add, Nat.mul_comm 8 a, Nat.mul_assoc, Nat.mul_comm 8]
    omega
theorem keL_cons (x : Nat) (xs : List Nat) : keL (x :: xs) = x * 8 ^ xs.length + keL xs := by
  show keF (8 * 0 + x) xs = _
  rw [keF_val, Nat.mul_zero, Nat.zero_add]
theorem keL_lt : ∀ {xs : List Nat}, (∀ x ∈ xs, x < 8) → keL xs < 8 ^ xs.length
  | [], _ => by show 0 < 1; omega
  | x :: xs, h => by
    have h1 := keL_lt (xs := xs) (fun y hy => h y (List.mem_cons_of_mem _ hy))
    have h2 := h x List.mem_cons_self
    rw [keL_cons, List.length_cons, Nat.pow_succ]
    have : x * 8 ^ xs.length ≤ 7 * 8 ^ xs.length := Nat.mul_le_mul_right _ (by omega)
    omega
def blV (g q : Nat → Nat → Option Nat) (lr lp sc : Nat → Nat) (cn : Nat) (FP FN : Nat → Nat) : Nat → Nat → List Nat
  | 0, _ => []
  | t + 1, st => (Vp g q lr lp sc cn FP FN (t + 1) st).getD 0 % 8 :: blV g q lr lp sc cn FP FN t (nxA lr lp st ((Vp g q lr lp sc cn FP FN (t + 1) st).getD 0 % 8) cn)
theorem Vp_best {g q : Nat → Nat → Option Nat} {lr lp sc FP FN : Nat → Nat} {cn : Nat} {may : Nat → Nat → Nat → Bool} {co : Nat → Nat → Nat → Nat} (hc : cn ≤ 3) (h4 : ∀ k, lr k ≤ 4 ∧ lp k ≤ 4) (h1 : ∀ k, k < cn → 1 ≤ lr k ∧ 1 ≤ lp k)
    (hmay : ∀ h s x, h < 36 → x < 8 → ((x < 2 ^ cn ∧ may h s x = true) ↔ ((∃ i, i < 2 ^ bcN (feP (g h) cn (KA lr lp s cn)) ∧ x = muP (g h) cn (KA lr lp s cn) ||| prt (feP (g h) cn (KA lr lp s cn)) i) ∧ FN h ≤ smA (g h) cn x)))
    (hco : ∀ h s x, h < 36 → x < 2 ^ cn → may h s x = true → co h s x = smA (q h) cn x * FP h + smA (fun k => some (sc k)) cn (dif x (rbA (KA lr lp s cn) cn))) :
    ∀ t, t ≤ 36 → ∀ s, (Vp g q lr lp sc cn FP FN t (KA lr lp s cn) = none → ∀ ys : List Nat, ys.length = t → ¬ okL may (fun s x => bhR s x 3) (2 ^ cn) (36 - t) s ys) ∧
      ∀ v, Vp g q lr lp sc cn FP FN t (KA lr lp s cn) = some v → isB may (fun s x => bhR s x 3) co (2 ^ cn) (36 - t) s t (blV g q lr lp sc cn FP FN t (KA lr lp s cn)) ∧ coL (fun s x => bhR s x 3) co (36 - t) s (blV g q lr lp sc cn FP FN t (KA lr lp s cn)) = v / 8
  | 0, _, s => by
    refine And.intro (fun h => ?_) (fun v hv => ?_)
    · cases (show some 0 = none from h)
    cases (show some 0 = some v from hv)
    refine ⟨⟨rfl, trivial, fun ys hy _ => ?_⟩, rfl⟩
    rw [List.length_eq_zero_iff.mp hy]
    exact Or.inr ⟨rfl, Nat.le_refl _⟩
  | t + 1, ht, s => by
    have hp := (p2cn hc).1
    have ih := Vp_best hc h4 h1 hmay hco t (by omega)
    have e1 : 36 - (t + 1) + 1 = 36 - t := by omega
    have eh : 35 - t = 36 - (t + 1) := by omega
    have hh : 36 - (t + 1) < 36 := by omega
    have hV : Vp g q lr lp sc cn FP FN (t + 1) (KA lr lp s cn) = bPu (g (36 - (t + 1))) (q (36 - (t + 1))) lr lp sc cn (FP (36 - (t + 1))) (FN (36 - (t + 1))) (Vp g q lr lp sc cn FP FN t) (KA lr lp s cn) := by
      show bPu (g (35 - t)) (q (35 - t)) lr lp sc cn (FP (35 - t)) (FN (35 - t)) _ _ = _
      rw [eh]
    generalize 36 - (t + 1) = h at e1 hh hV ⊢
    have hnx : ∀ x, nxA lr lp (KA lr lp s cn) x cn = KA lr lp (bhR s x 3) cn := fun x => (KA_next hc h4 h1 cn (Nat.le_refl cn)).symm
    -- what a list's head and tail are worth
    have cand : ∀ y ys, okL may (fun s x => bhR s x 3) (2 ^ cn) h s (y :: ys) → ys.length = t → ∃ i w, i < 2 ^ bcN (feP (g h) cn (KA lr lp s cn)) ∧ y = muP (g h) cn (KA lr lp s cn) ||| prt (feP (g h) cn (KA lr lp s cn)) i ∧ Vp g q lr lp sc cn FP FN t (KA lr lp (bhR s y 3) cn) = some w ∧ chP (g h) (q h) lr lp sc cn (FP h) (FN h) (Vp g q lr lp sc cn FP FN t) (KA lr lp s cn) y = some ((w / 8 + co h s y) * 8 + y) := by
      intro y ys hok hl
      obtain ⟨a1, a2, a3⟩ := hok
      rw [e1] at a3
      obtain ⟨⟨i, hi, hy⟩, hheat⟩ := (hmay h s y hh (by omega)).mp ⟨a1, a2⟩
      cases hw : Vp g q lr lp sc cn FP FN t (KA lr lp (bhR s y 3) cn) with
      | none => exact absurd a3 ((ih _).1 hw ys hl)
      | some w =>
        refine ⟨i, w, hi, hy, rfl, ?_⟩
        unfold chP
        rw [if_neg (by omega), hnx, hw, hco h s y hh a1 a2]
        rfl
    refine ⟨fun hN ys hy hok => ?_, fun v hv => ?_⟩
    · cases ys with
      | nil => simp at hy
      | cons y ys =>
        obtain ⟨i, w, hi, hyi, -, hch⟩ := cand y ys hok (by simpa using hy)
        rw [hV] at hN
        have := bcF_none _ hN i hi
        rw [← hyi, hch] at this; cases this
    · have hbl : blV g q lr lp sc cn FP FN (t + 1) (KA lr lp s cn) = v % 8 :: blV g q lr lp sc cn FP FN t (nxA lr lp (KA lr lp s cn) (v % 8) cn) := by
        show (Vp g q lr lp sc cn FP FN (t + 1) (KA lr lp s cn)).getD 0 % 8 :: _ = _
        rw [hv]; rfl
      rw [hbl]
      rw [hV] at hv
      obtain ⟨i, hi, hch⟩ := bcF_mem _ hv
      have l1 : muP (g h) cn (KA lr lp s cn) < 2 ^ cn := and_lt2 abA_lt2
      have l2 : feP (g h) cn (KA lr lp s cn) < 2 ^ cn := and_lt2' (and_lt2' abA_lt2)
      obtain ⟨x, hxe⟩ : ∃ x, x = muP (g h) cn (KA lr lp s cn) ||| prt (feP (g h) cn (KA lr lp s cn)) i := ⟨_, rfl⟩
      have hx : x < 2 ^ cn := by rw [hxe]; exact Nat.or_lt_two_pow l1 (prt_lt2 l2 i)
      rw [← hxe] at hch
      have hch0 := hch
      unfold chP at hch
      by_cases hheat : smA (g h) cn x < FN h
      · rw [if_pos hheat] at hch; cases hch
      rw [if_neg hheat, hnx] at hch
      have hmx := ((hmay h s x hh (by omega)).mpr ⟨⟨i, hi, hxe⟩, by omega⟩).2
      cases hw : Vp g q lr lp sc cn FP FN t (KA lr lp (bhR s x 3) cn) with
      | none => rw [hw] at hch; cases hch
      | some w =>
        rw [hw] at hch
        have hve : (w / 8 + (smA (q h) cn x * FP h + smA (fun k => some (sc k)) cn (dif x (rbA (KA lr lp s cn) cn)))) * 8 + x = v := Option.some.inj hch
        rw [← hco h s x hh hx hmx] at hve
        have ev : v % 8 = x := by omega
        have ed : v / 8 = w / 8 + co h s x := by omega
        obtain ⟨⟨b1, b2, b3⟩, b4⟩ := (ih (bhR s x 3)).2 w hw
        rw [ev, hnx]
        generalize hL : blV g q lr lp sc cn FP FN t (KA lr lp (bhR s x 3) cn) = L at b1 b2 b3 b4
        rw [← e1] at b2 b3 b4
        refine ⟨⟨by rw [List.length_cons, b1], ⟨hx, hmx, b2⟩, fun ys hy hok => ?_⟩, ?_⟩
        · cases ys with
          | nil => simp at hy
          | cons y ys =>
            have hyl : ys.length = t := by simpa using hy
            obtain ⟨j, w', hj, hyj, hw', hch'⟩ := cand y ys hok hyl
            have hmin := bcF_min _ hv j hj _ (by rw [← hyj]; exact hch')
            obtain ⟨⟨c1, c2, c3⟩, c4⟩ := (ih (bhR s y 3)).2 w' hw'
            have hok' := hok.2.2
            have hy2 : y < 2 ^ cn := hok.1
            rw [← e1] at c2 c3 c4
            have hcmp := c3 ys hyl hok'
            show co h s x + coL (fun s x => bhR s x 3) co (h + 1) (bhR s x 3) L < co h s y + coL (fun s x => bhR s x 3) co (h + 1) (bhR s y 3) ys ∨ (co h s x + coL (fun s x => bhR s x 3) co (h + 1) (bhR s x 3) L = co h s y + coL (fun s x => bhR s x 3) co (h + 1) (bhR s y 3) ys ∧ keL (x :: L) ≤ keL (y :: ys))
            rw [keL_cons, keL_cons, b1, hyl]
            have hLlt := keL_lt (okL_all (b := 8) (by omega) b2)
            rw [b1] at hLlt
            rcases Nat.lt_trichotomy x y with z | z | z
            · have hmul : (x + 1) * 8 ^ t ≤ y * 8 ^ t := Nat.mul_le_mul_right _ z
              rw [Nat.add_mul, Nat.one_mul] at hmul
              omega
            · subst z
              have := b3 ys hyl hok'
              omega
            · omega
        · show co h s x + coL (fun s x => bhR s x 3) co (h + 1) (bhR s x 3) L = v / 8
          omega
