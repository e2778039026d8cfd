/-! runs of hours: a list of sets from an hour and a state on -/
section SEQ
variable (may : Nat → Nat → Nat → Bool) (nx : Nat → Nat → Nat) (co : Nat → Nat → Nat → Nat) (B : Nat)
def okL : Nat → Nat → List Nat → Prop
  | _, _, [] => True
  | h, st, x :: xs => x < B ∧ may h st x = true ∧ okL (h + 1) (nx st x) xs
def coL : Nat → Nat → List Nat → Nat
  | _, _, [] => 0
  | h, st, x :: xs => co h st x + coL (h + 1) (nx st x) xs
def enL : Nat → List Nat → Nat
  | st, [] => st
  | st, x :: xs => enL (nx st x) xs
def keF : Nat → List Nat → Nat
  | a, [] => a
  | a, x :: xs => keF (8 * a + x) xs
def keL (xs : List Nat) : Nat := keF 0 xs
/-- the best list of T sets -/
def isB (h st T : Nat) (xs : List Nat) : Prop := xs.length = T ∧ okL may nx B h st xs ∧ ∀ ys : List Nat, ys.length = T → okL may nx B h st ys → coL nx co h st xs < coL nx co h st ys ∨ (coL nx co h st xs = coL nx co h st ys ∧ keL xs ≤ keL ys)
end SEQ
section SEQ2
variable {may : Nat → Nat → Nat → Bool} {nx : Nat → Nat → Nat} {co : Nat → Nat → Nat → Nat} {B : Nat}
theorem okL_snoc {x : Nat} : ∀ {xs : List Nat} {h st : Nat}, okL may nx B h st (xs ++ [x]) ↔ okL may nx B h st xs ∧ x < B ∧ may (h + xs.length) (enL nx st xs) x = true
  | [], h, st => by simp [okL, enL]
  | y :: xs, h, st => by
    have := okL_snoc (x := x) (xs := xs) (h := h + 1) (st := nx st y)
    show (y < B ∧ may h st y = true ∧ okL may nx B (h + 1) (nx st y) (xs ++ [x])) ↔ (y < B ∧ may h st y = true ∧ okL may nx B (h + 1) (nx st y) xs) ∧ x < B ∧ may (h + (xs.length + 1)) (enL nx (nx st y) xs) x = true
    rw [this, show h + 1 + xs.length = h + (xs.length + 1) by omega]
    constructor
    · rintro ⟨a, b, c, d, e⟩; exact ⟨⟨a, b, c⟩, d, e⟩
    · rintro ⟨⟨a, b, c⟩, d, e⟩; exact ⟨a, b, c, d, e⟩
theorem coL_snoc {x : Nat} : ∀ {xs : List Nat} {h st : Nat}, coL nx co h st (xs ++ [x]) = coL nx co h st xs + co (h + xs.length) (enL nx st xs) x
  | [], h, st => by simp [coL, enL]
  | y :: xs, h, st => by
    have := coL_snoc (x := x) (xs := xs) (h := h + 1) (st := nx st y)
    show co h st y + coL nx co (h + 1) (nx st y) (xs ++ [x]) = co h st y + coL nx co (h + 1) (nx st y) xs + co (h + (xs.length + 1)) (enL nx (nx st y) xs) x
    rw [this, show h + 1 + xs.length = h + (xs.length + 1) by omega]; omega
theorem enL_snoc {x : Nat} : ∀ {xs : List Nat} {st : Nat}, enL nx st (xs ++ [x]) = nx (enL nx st xs) x
  | [], st => rfl
  | y :: xs, st => enL_snoc (xs := xs) (st := nx st y)
theorem keF_snoc {x : Nat} : ∀ {xs : List Nat} {a : Nat}, keF a (xs ++ [x]) = 8 * keF a xs + x
  | [], a => rfl
  | y :: xs, a => keF_snoc (xs := xs) (a := 8 * a + y)
theorem keL_snoc {x : Nat} {xs : List Nat} : keL (xs ++ [x]) = 8 * keL xs + x := keF_snoc
theorem snoc_of {xs : List Nat} {t : Nat} (h : xs.length = t + 1) : ∃ zs x, xs = zs ++ [x] ∧ zs.length = t := by
  have hne : xs ≠ [] := by intro q; rw [q] at h; cases h
  refine ⟨xs.dropLast, xs.getLast hne, (List.dropLast_concat_getLast hne).symm, ?_⟩
  rw [List.length_dropLast, h]; omega
theorem enL_lt {N st : Nat} (hn : ∀ st x, nx st x < N) (hs : st < N) : ∀ xs, enL nx st xs < N
  | [] => hs
  | x :: xs => enL_lt (st := nx st x) hn (hn st x) xs
theorem coL_le {M : Nat} (hc : ∀ h st x, co h st x ≤ M) : ∀ (xs : List Nat) (h st : Nat), coL nx co h st xs ≤ M * xs.length
  | [], h, st => Nat.zero_le _
  | x :: xs, h, st => by
    have h1 := coL_le hc xs (h + 1) (nx st x)
    have h2 := hc h st x
    show co h st x + _ ≤ M * (xs.length + 1)
    rw [Nat.mul_add]; omega
theorem okL_all {b : Nat} (hb : B ≤ b) : ∀ {xs : List Nat} {h st : Nat}, okL may nx B h st xs → ∀ x ∈ xs, x < b
  | [], _, _, _, x, hx => by cases hx
  | y :: xs, h, st, hk, x, hx => by
    rcases List.mem_cons.mp hx with rfl | hx
    · have := hk.1; omega
    · exact okL_all hb hk.2.2 x hx
end SEQ2
/-- the list that the ways lead back over -/
def bkL (WY : Nat → Nat) (ov : Nat) : Nat → Nat → List Nat
  | 0, _ => []
  | t + 1, s => bkL WY ov t (WY (512 * (ov + t) + s) / 8) ++ [WY (512 * (ov + t) + s) % 8]
theorem bkL_len (WY : Nat → Nat) (ov : Nat) : ∀ t s, (bkL WY ov t s).length = t
  | 0, _ => rfl
  | t + 1, s => by show (bkL WY ov t _ ++ [_]).length = _; rw [List.length_append, bkL_len WY ov t]; rfl
theorem bkL_congr {WY W0 : Nat → Nat} {ov : Nat} (hw : ∀ j, W0 j < 4096) : ∀ {t s : Nat}, s < 512 → (∀ j, j < 512 * (ov + t) → WY j = W0 j) → bkL WY ov t s = bkL W0 ov t s
  | 0, _, _, _ => rfl
  | t + 1, s, hs, h => by
    have e : WY (512 * (ov + t) + s) = W0 (512 * (ov + t) + s) := h _ (by omega)
    have hb := hw (512 * (ov + t) + s)
    show bkL WY ov t (WY (512 * (ov + t) + s) / 8) ++ [WY (512 * (ov + t) + s) % 8] = bkL W0 ov t (W0 (512 * (ov + t) + s) / 8) ++ [W0 (512 * (ov + t) + s) % 8]
    rw [e, bkL_congr hw (show W0 (512 * (ov + t) + s) / 8 < 512 by omega) (fun j hj => h j (by omega))]
theorem ctB_mono (p : Nat → Bool) {k : Nat} : ∀ {n : Nat}, k ≤ n → ctB p k ≤ ctB p n
  | 0, h => by rw [show k = 0 by omega]; exact Nat.le_refl _
  | n + 1, h => by
    rcases Nat.lt_or_ge n k with q | q
    · rw [show k = n + 1 by omega]; exact Nat.le_refl _
    · exact Nat.le_trans (ctB_mono p q) (by show _ ≤ ctB p n + _; omega)
theorem ctB_strict {p : Nat → Bool} {k n : Nat} (h : p k = true) (hk : k < n) : ctB p k < ctB p n := by
  have h1 := ctB_mono p (show k + 1 ≤ n by omega)
  have h2 : ctB p (k + 1) = ctB p k + 1 := by show ctB p k + _ = _; rw [if_pos h]
  omega
theorem ctB_add {p q : Nat → Bool} {a : Nat} : ∀ {n : Nat}, (∀ k, k < n → q k = true → p k = true ∨ k = a) → ctB q n ≤ ctB p n + (if a < n then 1 else 0)
  | 0, _ => by show 0 ≤ _; omega
  | n + 1, h => by
    have h1 := ctB_add (p := p) (q := q) (a := a) (n := n) (fun k hk => h k (by omega))
    have h2 := h n (by omega)
    show ctB q n + (if q n then 1 else 0) ≤ ctB p n + (if p n then 1 else 0) + (if a < n + 1 then 1 else 0)
    have hmn : (if a < n then 1 else 0 : Nat) ≤ (if a < n + 1 then 1 else 0 : Nat) := by split <;> split <;> omega
    by_cases hq : q n = true
    · rcases h2 hq with h3 | h3
      · rw [if_pos hq, if_pos h3]; omega
      · have e1 : (if a < n then 1 else 0 : Nat) = 0 := if_neg (by omega)
        have e2 : (if a < n + 1 then 1 else 0 : Nat) = 1 := if_pos (by omega)
        rw [if_pos hq, e2]; rw [e1] at h1; omega
    · rw [if_neg hq]; omega
theorem snI_ct {TX : Nat → Bool} {KX : Nat → Nat} : ∀ (i : Nat) (SE : Nat → Bool), snI TX KX i SE → ctB SE 4096 ≤ i
  | 0, SE, h => by
    have : ∀ n, n ≤ 4096 → ctB SE n = 0 := by
      intro n
      induction n with
      | zero => intro _; rfl
      | succ n ih =>
        intro hn
        show ctB SE n + _ = 0
        rw [ih (by omega), if_neg ?_]
        intro q
        obtain ⟨s, hs, _⟩ := (h n (by omega)).mp q
        omega
    rw [this 4096 (Nat.le_refl _)]; exact Nat.le_refl 0
  | i + 1, SE, h => by
    have hp : snI TX KX i (fun k => @decide (∃ s, s < i ∧ TX s = true ∧ KX s = k) (Classical.propDecidable _)) := by
      intro k _
      simp
    have h1 := snI_ct i _ hp
    have h2 := ctB_add (p := fun k => @decide (∃ s, s < i ∧ TX s = true ∧ KX s = k) (Classical.propDecidable _)) (q := SE) (a := KX i) (n := 4096) (by
      intro k hk hq
      obtain ⟨s, hs, ht, he⟩ := (h k hk).mp hq
      rcases Nat.lt_or_ge s i with z | z
      · left; simp; exact ⟨s, z, ht, he⟩
      · right; rw [show s = i by omega] at he; exact he.symm)
    split at h2 <;> omega
/-- t hours are searched: the best lists to each state -/
def fwI (may : Nat → Nat → Nat → Bool) (nx : Nat → Nat → Nat) (co : Nat → Nat → Nat → Nat) (B ov sn t : Nat) (TH : Nat → Bool) (CO RK WY : Nat → Nat) : Prop :=
  (∀ s, s < 512 → (TH s = false ∧ ∀ xs : List Nat, xs.length = t → okL may nx B ov sn xs → enL nx sn xs ≠ s) ∨
    (TH s = true ∧ okL may nx B ov sn (bkL WY ov t s) ∧ enL nx sn (bkL WY ov t s) = s ∧ coL nx co ov sn (bkL WY ov t s) = CO s ∧
      ∀ ys : List Nat, ys.length = t → okL may nx B ov sn ys → enL nx sn ys = s → CO s < coL nx co ov sn ys ∨ (CO s = coL nx co ov sn ys ∧ keL (bkL WY ov t s) ≤ keL ys))) ∧
  (∀ s s', s < 512 → s' < 512 → TH s = true → TH s' = true → (RK s < RK s' ↔ keL (bkL WY ov t s) < keL (bkL WY ov t s'))) ∧ ∀ s, s < 512 → RK s < 512
theorem fwI_next {may : Nat → Nat → Nat → Bool} {nx : Nat → Nat → Nat} {co : Nat → Nat → Nat → Nat} {B ov sn t : Nat} {TH : Nat → Bool} {CO RK W0 : Nat → Nat} {u : hmS} (hB : B ≤ 8) (hnx : ∀ st x, nx st x < 512) (hsn : sn < 512) (bW : ∀ j, W0 j < 4096)
    (hF : fwI may nx co B ov sn t TH CO RK W0) (hu : hmP (may (ov + t)) nx (co (ov + t)) B TH CO RK (ov + t) W0 u) : fwI may nx co B ov sn (t + 1) (uTH u) (uCO u) (uRK u) (uWY u) := by
  obtain ⟨f1, f2, f3⟩ := hF
  obtain ⟨⟨m1, m2⟩, m3, m4, m5, m6, m7⟩ := hu
  have hbk : ∀ s, s < 512 → bkL (uWY u) ov t s = bkL W0 ov t s := fun s hs => bkL_congr bW hs (fun j hj => m2 j (by omega))
  have there : ∀ zs : List Nat, zs.length = t → okL may nx B ov sn zs → TH (enL nx sn zs) = true ∧ (CO (enL nx sn zs) < coL nx co ov sn zs ∨ (CO (enL nx sn zs) = coL nx co ov sn zs ∧ keL (bkL W0 ov t (enL nx sn zs)) ≤ keL zs)) := by
    intro zs hz hk
    rcases f1 _ (enL_lt hnx hsn zs) with ⟨_, q⟩ | ⟨q, _, _, _, q2⟩
    · exact absurd rfl (q zs hz hk)
    · exact ⟨q, q2 zs hz hk rfl⟩
  -- the way into a state that is there
  have way : ∀ to, to < 512 → uTX u to = true → ∃ s x, s < 512 ∧ x < 8 ∧ x < B ∧ TH s = true ∧ may (ov + t) s x = true ∧ nx s x = to ∧ uCX u to = CO s + co (ov + t) s x ∧ uKX u to = 8 * RK s + x ∧ bkL (uWY u) ov (t + 1) to = bkL W0 ov t s ++ [x] := by
    intro to hto hT
    rcases m1 to hto with ⟨q, _⟩ | ⟨_, s, x, h2, h3, h4, h5, h6, h7, h8, h9, _⟩
    · rw [hT] at q; cases q
    · refine ⟨s, x, by omega, by omega, h3, h4, h5, h6, h7, h8, ?_⟩
      show bkL (uWY u) ov t (uWY u (512 * (ov + t) + to) / 8) ++ [uWY u (512 * (ov + t) + to) % 8] = _
      rw [h9, show (8 * s + x) / 8 = s by omega, show (8 * s + x) % 8 = x by omega, hbk s (by omega)]
  have old : ∀ s, s < 512 → TH s = true → okL may nx B ov sn (bkL W0 ov t s) ∧ enL nx sn (bkL W0 ov t s) = s ∧ coL nx co ov sn (bkL W0 ov t s) = CO s := by
    intro s hs hT
    rcases f1 s hs with ⟨q, _⟩ | ⟨_, a, b, c, _⟩
    · rw [hT] at q; cases q
    · exact ⟨a, b, c⟩
  refine ⟨fun to hto => ?_, fun s s' hs hs' hT hT' => ?_, fun s hs => ?_⟩
  · rw [(m3 to hto).1, (m3 to hto).2.1]
    rcases m1 to hto with ⟨q1, q2⟩ | ⟨q1, _, _, _, _, _, _, _, _, _, _, q2⟩
    · refine Or.inl ⟨q1, fun xs hx hk he => ?_⟩
      obtain ⟨zs, x, rfl, hz⟩ := snoc_of hx
      rw [okL_snoc, hz] at hk
      rw [enL_snoc] at he
      have hl := enL_lt hnx hsn zs
      exact q2 _ x (by omega) hk.2.1 (there zs hz hk.1).1 hk.2.2 he
    · obtain ⟨s, x, hs, hx8, hx, hT, hm, he, hC, hK, hb⟩ := way to hto q1
      obtain ⟨o1, o2, o3⟩ := old s hs hT
      have hlen := bkL_len W0 ov t s
      refine Or.inr ⟨q1, ?_, ?_, ?_, fun ys hy hk hey => ?_⟩
      · rw [hb, okL_snoc, hlen, o2]; exact ⟨o1, hx, hm⟩
      · rw [hb, enL_snoc, o2]; exact he
      · rw [hb, coL_snoc, hlen, o2, o3]; exact hC.symm
      · obtain ⟨zs, x', rfl, hz⟩ := snoc_of hy
        rw [okL_snoc, hz] at hk
        rw [enL_snoc] at hey
        have hl := enL_lt hnx hsn zs
        obtain ⟨t1, t2⟩ := there zs hz hk.1
        have q3 := q2 (enL nx sn zs) x' (by omega) hk.2.1 t1 hk.2.2 hey
        have r1 := f2 s (enL nx sn zs) hs hl hT t1
        have r2 := f2 (enL nx sn zs) s hl hs t1 hT
        have hx' := hk.2.1
        rw [coL_snoc, hz, hb, keL_snoc, keL_snoc]
        omega
  · rw [(m3 s hs).1] at hT
    rw [(m3 s' hs').1] at hT'
    rw [(m3 s hs).2.2, (m3 s' hs').2.2, if_pos hT, if_pos hT']
    obtain ⟨p, x, hp, hx8, hx, hTp, hm, he, hC, hK, hb⟩ := way s hs hT
    obtain ⟨p', x', hp', hx8', hx', hTp', hm', he', hC', hK', hb'⟩ := way s' hs' hT'
    rw [hb, hb', keL_snoc, keL_snoc]
    have r1 := f2 p p' hp hp' hTp hTp'
    have r2 := f2 p' p hp' hp hTp' hTp
    have s1 : uSE u (uKX u s) = true := (m4 _ (m5 s)).mpr ⟨s, hs, hT, rfl⟩
    have s2 : uSE u (uKX u s') = true := (m4 _ (m5 s')).mpr ⟨s', hs', hT', rfl⟩
    have k1 : ctB (uSE u) (uKX u s) < ctB (uSE u) (uKX u s') ↔ uKX u s < uKX u s' := by
      constructor
      · intro q
        rcases Nat.lt_or_ge (uKX u s) (uKX u s') with z | z
        · exact z
        · have := ctB_mono (uSE u) z; omega
      · exact fun z => ctB_strict s1 z
    rw [k1, hK, hK']
    omega
  · rw [(m3 s hs).2.2]
    split
    · rename_i hT
      have s1 : uSE u (uKX u s) = true := (m4 _ (m5 s)).mpr ⟨s, hs, hT, rfl⟩
      have := ctB_strict s1 (m5 s)
      have := snI_ct 512 _ m4
      omega
    · omega
theorem fwI_0 {may : Nat → Nat → Nat → Bool} {nx : Nat → Nat → Nat} {co : Nat → Nat → Nat → Nat} {B ov sn : Nat} {TH : Nat → Bool} {CO RK WY : Nat → Nat} (h : ∀ s, s < 512 → TH s = decide (s = sn) ∧ CO s = 0 ∧ RK s = 0) : fwI may nx co B ov sn 0 TH CO RK WY := by
  refine ⟨fun s hs => ?_, fun s s' hs hs' _ _ => ?_, fun s hs => ?_⟩
  · obtain ⟨h1, h2, h3⟩ := h s hs
    by_cases e : s = sn
    · refine Or.inr ⟨by rw [h1, decide_eq_true e], trivial, e.symm, h2.symm, fun ys hy _ _ => ?_⟩
      rw [List.length_eq_zero_iff.mp hy, h2]; exact Or.inr ⟨rfl, Nat.le_refl _⟩
    · refine Or.inl ⟨by rw [h1, decide_eq_false e], fun xs hx _ he => ?_⟩
      rw [List.length_eq_zero_iff.mp hx] at he
      exact e he.symm
  · rw [(h s hs).2.2, (h s' hs').2.2]; exact Iff.rfl
  · rw [(h s hs).2.2]; omega
/-- the best of the first i states -/
def bsI (TH : Nat → Bool) (CO RK : Nat → Nat) (i : Nat) : Option Nat → Prop
  | none => ∀ s, s < i → TH s = false
  | some b => b < i ∧ TH b = true ∧ ∀ s, s < i → TH s = true → CO b < CO s ∨ (CO b = CO s ∧ RK b ≤ RK s)
/-- back over the ways from hour 36 on -/
def bsW (WY : Nat → Nat) (b : Nat) : Nat → Nat
  | 0 => b
  | k + 1 => WY (512 * (35 - k) + bsW WY b k) / 8
def lsP (PA : Nat → Nat) (ov : Nat) : Nat → List Nat
  | 0 => []
  | t + 1 => lsP PA ov t ++ [PA (ov + t)]
theorem lsP_len (PA : Nat → Nat) (ov : Nat) : ∀ t, (lsP PA ov t).length = t
  | 0 => rfl
  | t + 1 => by show (lsP PA ov t ++ [_]).length = _; rw [List.length_append, lsP_len PA ov t]; rfl
theorem lsP_bk {PA WY : Nat → Nat} {ov b : Nat} (hov : ov ≤ 36) (h : ∀ i, i < 36 - ov → PA (35 - i) = WY (512 * (35 - i) + bsW WY b i) % 8) : ∀ t, t ≤ 36 - ov → bkL WY ov t (bsW WY b (36 - ov - t)) = lsP PA ov t
  | 0, _ => rfl
  | t + 1, ht => by
    have ih := lsP_bk hov h t (by omega)
    have e : 36 - ov - t = (36 - ov - (t + 1)) + 1 := by omega
    have h1 := h (36 - ov - (t + 1)) (by omega)
    rw [show 35 - (36 - ov - (t + 1)) = ov + t by omega] at h1
    show bkL WY ov t (WY (512 * (ov + t) + bsW WY b (36 - ov - (t + 1))) / 8) ++ [WY (512 * (ov + t) + bsW WY b (36 - ov - (t + 1))) % 8] = lsP PA ov t ++ [PA (ov + t)]
    rw [← ih, h1, e]
    show _ = bkL WY ov t (WY (512 * (35 - (36 - ov - (t + 1))) + bsW WY b (36 - ov - (t + 1))) / 8) ++ _
    rw [show 35 - (36 - ov - (t + 1)) = ov + t by omega]
theorem fw_best {may : Nat → Nat → Nat → Bool} {nx : Nat → Nat → Nat} {co : Nat → Nat → Nat → Nat} {B ov sn b T : Nat} {TH : Nat → Bool} {CO RK WY : Nat → Nat} (hnx : ∀ st x, nx st x < 512) (hsn : sn < 512)
    (hF : fwI may nx co B ov sn T TH CO RK WY) (hb : bsI TH CO RK 512 (some b)) : isB may nx co B ov sn T (bkL WY ov T b) ∧ coL nx co ov sn (bkL WY ov T b) = CO b := by
  obtain ⟨f1, f2, f3⟩ := hF
  obtain ⟨b1, b2, b3⟩ := hb
  rcases f1 b b1 with ⟨q, _⟩ | ⟨_, o1, o2, o3, _⟩
  · rw [b2] at q; cases q
  · refine ⟨⟨bkL_len _ _ _ _, o1, fun ys hy hk => ?_⟩, o3⟩
    have hl := enL_lt hnx hsn ys
    rcases f1 _ hl with ⟨_, q⟩ | ⟨t1, _, _, _, t2⟩
    · exact absurd rfl (q ys hy hk)
    · have q1 := b3 _ hl t1
      have q2 := t2 ys hy hk rfl
      have r1 := f2 b (enL nx sn ys) b1 hl b2 t1
      have r2 := f2 (enL nx sn ys) b hl b1 t1 b2
      rw [o3]
      omega
theorem fw_none {may : Nat → Nat → Nat → Bool} {nx : Nat → Nat → Nat} {co : Nat → Nat → Nat → Nat} {B ov sn T : Nat} {TH : Nat → Bool} {CO RK WY : Nat → Nat} (hnx : ∀ st x, nx st x < 512) (hsn : sn < 512)
    (hF : fwI may nx co B ov sn T TH CO RK WY) (hb : bsI TH CO RK 512 none) : ∀ ys : List Nat, ys.length = T → ¬ okL may nx B ov sn ys := by
  intro ys hy hk
  have hl := enL_lt hnx hsn ys
  rcases hF.1 _ hl with ⟨_, q⟩ | ⟨t1, _⟩
  · exact q ys hy hk rfl
  · rw [hb _ hl] at t1; cases t1
theorem bsI_no {TH : Nat → Bool} {CO RK : Nat → Nat} {i : Nat} {b : Option Nat} (h : bsI TH CO RK i b) (ht : TH i = false) : bsI TH CO RK (i + 1) b := by
  cases b with
  | none =>
    intro s hs
    rcases Nat.lt_or_ge s i with q | q
    · exact h s q
    · rw [show s = i by omega]; exact ht
  | some b =>
    refine ⟨by have := h.1; omega, h.2.1, fun s hs hT => ?_⟩
    rcases Nat.lt_or_ge s i with q | q
    · exact h.2.2 s q hT
    · rw [show s = i by omega, ht] at hT; cases hT
theorem bsI_keep {TH : Nat → Bool} {CO RK : Nat → Nat} {i b : Nat} (h : bsI TH CO RK i (some b)) (hb : CO b < CO i ∨ (CO b = CO i ∧ RK b ≤ RK i)) : bsI TH CO RK (i + 1) (some b) := by
  refine ⟨by have := h.1; omega, h.2.1, fun s hs hT => ?_⟩
  rcases Nat.lt_or_ge s i with q | q
  · exact h.2.2 s q hT
  · rw [show s = i by omega]; exact hb
theorem bsI_new {TH : Nat → Bool} {CO RK : Nat → Nat} {i : Nat} {o : Option Nat} (h : bsI TH CO RK i o) (ht : TH i = true) (hb : ∀ b, o = some b → CO i < CO b ∨ (CO i = CO b ∧ RK i < RK b)) : bsI TH CO RK (i + 1) (some i) := by
  refine ⟨by omega, ht, fun s hs hT => ?_⟩
  rcases Nat.lt_or_ge s i with q | q
  · cases o with
    | none => rw [h s q] at hT; cases hT
    | some b =>
      have h1 := h.2.2 s q hT
      have h2 := hb b rfl
      omega
  · rw [show s = i by omega]; exact Or.inr ⟨rfl, Nat.le_refl _⟩
theorem bsW_lt {WY : Nat → Nat} {b : Nat} (hb : b < 512) (hw : ∀ j, WY j < 4096) : ∀ k, bsW WY b k < 512
  | 0 => hb
  | k + 1 => by have := hw (512 * (35 - k) + bsW WY b k); show WY _ / 8 < 512; omega
def gbI (KX CX WY : Nat → Nat) : Prop := (∀ j, KX j < 4096) ∧ (∀ j, CX j ≤ 10810800000) ∧ ∀ j, WY j < 4096
/-- what a search has found -/
def srP (may : Nat → Nat → Nat → Bool) (nx : Nat → Nat → Nat) (co : Nat → Nat → Nat → Nat) (B ov sn : Nat) (r : Int32) (PA : Nat → Nat) (cst : Int64) : Prop :=
  (r = 1 ∧ isB may nx co B ov sn (36 - ov) (lsP PA ov (36 - ov)) ∧ cst = lN (coL nx co ov sn (lsP PA ov (36 - ov)))) ∨ (r = 0 ∧ ∀ ys : List Nat, ys.length = 36 - ov → ¬ okL may nx B ov sn ys)
theorem fw_co {may : Nat → Nat → Nat → Bool} {nx : Nat → Nat → Nat} {co : Nat → Nat → Nat → Nat} {B ov sn t M : Nat} {TH : Nat → Bool} {CO RK WY : Nat → Nat} (hF : fwI may nx co B ov sn t TH CO RK WY) (hc : ∀ h st x, co h st x ≤ M) : ∀ j, j < 512 → TH j = true → CO j ≤ M * t := by
  intro j hj hT
  rcases hF.1 j hj with ⟨q, _⟩ | ⟨_, _, _, q, _⟩
  · rw [hT] at q; cases q
  · have := coL_le (nx := nx) hc (bkL WY ov t j) ov sn
    rw [bkL_len] at this
    omega
theorem ctR_le2 {q : Nat → Option Nat} {ce : Nat → Nat} {pr st x cn : Nat} (hcn : cn ≤ 3) (hq : ∀ k v, q k = some v → v ≤ 100000) (hc : ∀ k, ce k ≤ 100000) (hp : pr ≤ 1000) : ctR q ce pr st x cn ≤ 300300000 := by
  have := ctR_le (st := st) (x := x) hq hc hp cn; omega
