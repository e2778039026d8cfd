/-! small numbers as bits; arrays of numbers; arrays of references -/
theorem nI_and (a b : Nat) : nI a &&& nI b = nI (a &&& b) := by
  apply Int32.toBitVec_inj.1
  show BitVec.ofNat 32 a &&& BitVec.ofNat 32 b = BitVec.ofNat 32 (a &&& b)
  apply BitVec.eq_of_getLsbD_eq
  intro i hi
  simp [hi]
theorem nI_or (a b : Nat) : nI a ||| nI b = nI (a ||| b) := by
  apply Int32.toBitVec_inj.1
  show BitVec.ofNat 32 a ||| BitVec.ofNat 32 b = BitVec.ofNat 32 (a ||| b)
  apply BitVec.eq_of_getLsbD_eq
  intro i hi
  simp [hi]
theorem sh_amt : ∀ b : Nat, b < 32 → ((nI b &&& 31).toBitVec.smod 32).toNat = b := by decide
theorem nI_shr {a b : Nat} (ha : a < 2147483648) (hb : b < 32) : nI a >>> (nI b &&& 31) = nI (a / 2 ^ b) := pk_shrN ha _ b (sh_amt b hb)
theorem nI_shl {a b : Nat} (hb : b < 32) (h : a * 2 ^ b < 4294967296) : nI a <<< (nI b &&& 31) = nI (a * 2 ^ b) := pk_shlN _ b (sh_amt b hb) h
theorem updN (R : Nat → Nat) (i v : Nat) : upd (fun j => nI (R j)) i (nI v) = fun j => nI (va_up R i v j) := by
  funext j
  unfold upd va_up
  split <;> rfl
/-- a state's digit for machine k; whether machine k is in a set -/
def dg (st k : Nat) : Nat := st / 8 ^ k % 8
def on (set k : Nat) : Bool := decide (set / 2 ^ k % 2 = 1)
theorem dg_lt (st k : Nat) : dg st k < 8 := Nat.mod_lt _ (by omega)
theorem and7 (x : Nat) : x &&& 7 = x % 8 := Nat.and_two_pow_sub_one_eq_mod x 3
theorem and1 (x : Nat) : x &&& 1 = x % 2 := Nat.and_two_pow_sub_one_eq_mod x 1
theorem dg_eq (st k : Nat) : (st / 2 ^ (3 * k)) &&& 7 = dg st k := by
  rw [and7, Nat.pow_mul]; rfl
theorem p3 {k : Nat} (hk : k < 3) : 2 ^ k = 1 ∨ 2 ^ k = 2 ∨ 2 ^ k = 4 := by
  rcases (show k = 0 ∨ k = 1 ∨ k = 2 by omega) with rfl | rfl | rfl <;> simp
theorem p83 {k : Nat} (hk : k < 3) : 2 ^ (3 * k) = 1 ∨ 2 ^ (3 * k) = 8 ∨ 2 ^ (3 * k) = 64 := by
  rcases (show k = 0 ∨ k = 1 ∨ k = 2 by omega) with rfl | rfl | rfl <;> simp
theorem or_add {x m d : Nat} (h : x < 2 ^ m) : x ||| d * 2 ^ m = x + d * 2 ^ m := by
  have := Nat.two_pow_add_eq_or_of_lt h d
  rw [Nat.or_comm, Nat.mul_comm d, ← this]; omega
theorem dg_low {x k j d : Nat} (hx : x < 8 ^ k) (hj : j < k) : dg (x + d * 8 ^ k) j = dg x j := by
  unfold dg
  have e : 8 ^ k = 8 ^ j * (8 * 8 ^ (k - j - 1)) := by
    rw [← Nat.pow_succ', ← Nat.pow_add]; congr 1; omega
  rw [e, show d * (8 ^ j * (8 * 8 ^ (k - j - 1))) = 8 ^ j * (8 * (d * 8 ^ (k - j - 1))) by
    rw [Nat.mul_left_comm, Nat.mul_left_comm d], Nat.add_mul_div_left _ _ (Nat.pow_pos (by omega)), Nat.add_mul_mod_self_left]
theorem dg_top {x k d : Nat} (hx : x < 8 ^ k) (hd : d < 8) : dg (x + d * 8 ^ k) k = d := by
  unfold dg
  rw [Nat.mul_comm d, Nat.add_mul_div_left _ _ (Nat.pow_pos (by omega)), Nat.div_eq_of_lt hx, Nat.zero_add, Nat.mod_eq_of_lt hd]
theorem dg_zero {x k j : Nat} (hx : x < 8 ^ k) (hj : k ≤ j) : dg x j = 0 := by
  unfold dg
  have : 8 ^ k ≤ 8 ^ j := Nat.pow_le_pow_right (by omega) hj
  rw [Nat.div_eq_of_lt (by omega)]
/-- what the hours before bind the machines to -/
def rbA (st : Nat) : Nat → Nat
  | 0 => 0
  | k + 1 => rbA st k ||| (if 4 ≤ dg st k then 2 ^ k else 0)
def mrA (st : Nat) : Nat → Nat
  | 0 => 0
  | k + 1 => mrA st k ||| (if 4 ≤ dg st k ∧ dg st k ≠ 4 then 2 ^ k else 0)
def mpA (st : Nat) : Nat → Nat
  | 0 => 0
  | k + 1 => mpA st k ||| (if ¬ 4 ≤ dg st k ∧ dg st k ≠ 0 then 2 ^ k else 0)
/-- the state behind an hour in which a set runs, machines 0 .. i - 1 -/
def nxA (lr lp : Nat → Nat) (st set : Nat) : Nat → Nat
  | 0 => 0
  | k + 1 => nxA lr lp st set k + dgAfter (lr k) (lp k) (dg st k) (on set k) * 8 ^ k
theorem dgAfter_lt {a b d : Nat} {o : Bool} (hd : d < 8) (ha : a ≤ 4) (hb : b ≤ 4) : dgAfter a b d o < 8 := by
  unfold dgAfter; repeat' split
  all_goals omega
theorem nxA_lt {lr lp : Nat → Nat} (h : ∀ k, lr k ≤ 4 ∧ lp k ≤ 4) (st set : Nat) : ∀ k, nxA lr lp st set k < 8 ^ k
  | 0 => by simp [nxA]
  | k + 1 => by
    have h1 := nxA_lt h st set k
    have h2 : dgAfter (lr k) (lp k) (dg st k) (on set k) < 8 := dgAfter_lt (dg_lt _ _) (h k).1 (h k).2
    have h3 : dgAfter (lr k) (lp k) (dg st k) (on set k) * 8 ^ k ≤ 7 * 8 ^ k := Nat.mul_le_mul_right _ (by omega)
    show nxA lr lp st set k + _ < 8 ^ (k + 1)
    rw [Nat.pow_succ]; omega
/-- three addresses -/
def mAd (a b c : Nat) : Nat → Option Nat := fun i => match i with
  | 0 => some a
  | 1 => some b
  | 2 => some c
  | _ => none
section AA
variable {p : Program} {l : Launch} {e : Env} {R : Room} {s : State} {m : MethodId} {args : Array Value} {below : List Frame} {meth : Method} {c : Code} {H : Heap} {locs : List Loc} {cells slots : Nat} {Q : State → Prop}
variable {g : kG} {A : Nat → Prop} {ws wc wr w1 : va_W} {own : String} {cc : ByteArray} {nL : Nat} {ret : Option FieldType} {Ts : List Cond} {pc : Nat} {ls : Array Slot} {rest : List Value}
theorem b_aald {a : Nat} (hm : bM p s m args meth c own cc nL ret Ts) (hw : bW g A s H locs ws) (q0 t0 : Nat) {cA : ClassId} {n : Nat} {f : Nat → Option Nat} (ha : ws[q0]? = some (a, .inl (cA, n, .inr (.inr (.inr (.inr f)))))) {ty : FieldType} (ht : g.2[t0]? = some (cA, ty)) (hty : ty.isReference = true) {i v : Nat} (hi : i < n) (hn : n < 2147483648) (hv : f i = some v) (hdg : decode cc pc = .ok (.aaload, 1))
    (kk : W p l e R s m args below meth c H locs cells slots Q (F0 m (pc + 1) ls (.ref v :: rest))) : W p l e R s m args below meth c H locs cells slots Q (F0 m pc ls (.int (nI i) :: .ref a :: rest)) := by
  have hin : vp_in (nI i) n := vp_in_nI hi hn
  have hc : (nI i).toNatClampNeg = i := nI_clamp (by omega)
  refine W.aald (v := .ref v) (ty := ty) hm.1 hm.2.1 (hw.1 q0 _ ha) ((hw.2.2.2.1.2 t0 _ ht).1 n (fun j => va_rf (f j))) hty (fun q => by cases q) (by show ¬ (nI i < 0 ∨ (arrV _ _ _).slots.size ≤ _); rw [arrV_size]; exact hin) (by show (arrV _ _ _).slots[_]? = _; rw [arrV_read _ _ (by rw [hc]; exact hi), hc, hv]; rfl) rfl rfl hdg kk
end AA
