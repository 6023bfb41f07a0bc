/-! formes in time: plain functions of the sightings (number, columns) -/
/-- of the sightings in S: which formes are seen, which types are on a forme, which formes are ahead of which -/
def vSn (Y : qYt) (S : Int → Bool) (f : Int) : Bool := qEx (fun i => S i && decide (Y.2 i 1 = f)) Y.1.toNat
def vTn (Y : qYt) (f t : Int) : Bool := qEx (fun i => decide (Y.2 i 1 = f ∧ Y.2 i 0 = t)) Y.1.toNat
def vLw (Y : qYt) (i j : Int) : Bool := decide (Y.2 i 0 = Y.2 j 0 ∧ Y.2 i 3 < Y.2 j 3)
def vAh (Y : qYt) (S : Int → Bool) (f g : Int) : Bool := qEx (fun i => qEx (fun j => (S i && S j) && (decide (Y.2 i 1 = f ∧ Y.2 j 1 = g) && vLw Y i j)) Y.1.toNat) Y.1.toNat
def vAll : Int → Bool := fun _ => true
def vS (Y : qYt) (S : Int → Bool) : Nat := qBm (fun f => vSn Y S (f : Int)) 6
def vT (Y : qYt) (f : Nat) : Nat := qBm (fun t => vTn Y (f : Int) (t : Int)) 6
def vA (Y : qYt) (S : Int → Bool) (f : Nat) : Nat := qBm (fun g => vAh Y S (f : Int) (g : Int)) 6
def vC (Y : qYt) (f : Nat) : Nat := qBm (fun g => decide (¬ vT Y f = 0 ∧ ¬ vT Y g = 0 ∧ vT Y g &&& vT Y f = 0)) 6
/-- the formes of which one of s is ahead; the smallest that is free of s -/
def vBh (A : Nat → Nat) (s : Nat) : Nat := qBm (fun g => qEx (fun f => s.testBit f.toNat && (A f.toNat).testBit g) 6) 6
def vNx (A : Nat → Nat) (s : Nat) : Int := if qAn s (vBh A s) = 0 then -1 else qTz (qAn s (vBh A s))
def vLf (A : Nat → Nat) (s : Nat) : Nat → Nat
  | 0 => s
  | k + 1 => if vNx A (vLf A s k) = -1 then vLf A s k else qAn (vLf A s k) (2 ^ (vNx A (vLf A s k)).toNat)
/-- the number of orders of s, the last one taken first; n: at least how many s has -/
def vW (A : Nat → Nat) : Nat → Nat → Int
  | 0, s => if s = 0 then 1 else 0
  | n + 1, s => if s = 0 then 1 else qS (fun f => if s.testBit f.toNat = true ∧ A f.toNat &&& s = 0 then vW A n (s ^^^ 2 ^ f.toNat) else 0) 6
theorem vPc_dn : ∀ s : Nat, s < 64 → ∀ f : Nat, f < 6 → s.testBit f = true → qPc (s ^^^ 2 ^ f) 6 + 1 = qPc s 6 ∧ s ^^^ 2 ^ f < s ∧ s ^^^ 2 ^ f = qAn s (2 ^ f) := by decide +kernel
theorem vPc_0 : ∀ s : Nat, s < 64 → qPc s 6 ≤ 0 → s = 0 := by decide +kernel
theorem vPc_24 : ∀ s : Nat, s < 64 → qPc s 24 = qPc s 6 := by decide +kernel
theorem vW_b (A : Nat → Nat) : ∀ (n s : Nat), 0 ≤ vW A n s ∧ vW A n s ≤ ((6 ^ n : Nat) : Int) := by
  intro n
  induction n with
  | zero => intro s; simp only [vW]; split <;> decide
  | succ n ih =>
    intro s
    simp only [vW]
    have h6 : 0 < 6 ^ n := Nat.pow_pos (by decide)
    have e6 : ((6 ^ (n + 1) : Nat) : Int) = ((6 ^ n : Nat) : Int) * 6 := by rw [Nat.pow_succ]; omega
    rw [e6]
    split
    · omega
    · exact qS_b (B := ((6 ^ n : Nat) : Int)) (n := 6) (fun k _ _ => by
        split
        · exact ih _
        · omega)
/-- more room makes no difference -/
theorem vW_more (A : Nat → Nat) : ∀ (n s : Nat), s < 64 → qPc s 6 ≤ n → vW A (n + 1) s = vW A n s := by
  intro n
  induction n with
  | zero =>
    intro s hs hp
    have h0 := vPc_0 s hs hp
    simp only [vW]
    rw [if_pos h0, if_pos h0]
  | succ n ih =>
    intro s hs hp
    rw [vW]
    rw [show vW A (n + 1) s = if s = 0 then 1 else qS (fun f => if s.testBit f.toNat = true ∧ A f.toNat &&& s = 0 then vW A n (s ^^^ 2 ^ f.toNat) else 0) 6 from rfl]
    by_cases h0 : s = 0
    · rw [if_pos h0, if_pos h0]
    · rw [if_neg h0, if_neg h0]
      refine qS_congr (fun f f0 f1 => ?_)
      by_cases e : s.testBit f.toNat = true ∧ A f.toNat &&& s = 0
      · rw [if_pos e, if_pos e]
        have := vPc_dn s hs f.toNat (by omega) e.1
        exact ih _ (by omega) (by omega)
      · rw [if_neg e, if_neg e]
theorem vW_6 (A : Nat → Nat) (s : Nat) (hs : s < 64) : vW A 6 s = if s = 0 then 1 else qS (fun f => if s.testBit f.toNat = true ∧ A f.toNat &&& s = 0 then vW A 6 (s ^^^ 2 ^ f.toNat) else 0) 6 := by
  have hp : qPc s 6 ≤ 6 := (qPc_b s 6).2
  rw [← vW_more A 6 s hs hp]
  rfl
def vOr (Y : qYt) : Int := vW (vA Y vAll) 6 (vS Y vAll)
/-- how many places the order has; the forme at a place; the place of a forme -/
def vOl (Y : qYt) : Int := if 0 < vOr Y then qPc (vS Y vAll) 24 else 0
def vFi (Y : qYt) (p : Int) : Int := vNx (vA Y vAll) (vLf (vA Y vAll) (vS Y vAll) p.toNat)
def vFa (Y : qYt) (p : Int) : Int := if 0 ≤ p ∧ p < vOl Y then vFi Y p else -1
def vPo (Y : qYt) (f : Int) : Nat → Int → Int
  | 0, _ => -1
  | n + 1, p => if p < vOl Y then (if vFi Y p = f then p else vPo Y f n (p + 1)) else -1
def vTs (Y : qYt) : Nat := qBm (fun t => qEx (fun i => decide (Y.2 i 0 = (t : Int))) Y.1.toNat) 6
/-- bits of these sets -/
theorem qEx_01 (b : Bool) : b = true ∨ b = false := by cases b; exact Or.inr rfl; exact Or.inl rfl
theorem vS_lt (Y : qYt) (S : Int → Bool) : vS Y S < 64 := qBm_lt _ 6
theorem vT_lt (Y : qYt) (f : Nat) : vT Y f < 64 := qBm_lt _ 6
theorem vA_lt (Y : qYt) (S : Int → Bool) (f : Nat) : vA Y S f < 64 := qBm_lt _ 6
theorem vC_lt (Y : qYt) (f : Nat) : vC Y f < 64 := qBm_lt _ 6
theorem vBh_lt (A : Nat → Nat) (s : Nat) : vBh A s < 64 := qBm_lt _ 6
theorem vLf_lt (A : Nat → Nat) {s : Nat} (h : s < 64) : ∀ k, vLf A s k < 64 := by
  intro k
  induction k with
  | zero => exact h
  | succ k ih =>
    simp only [vLf]
    split
    · exact ih
    · exact qAn_lt (n := 6) ih
theorem qTz_b : ∀ s : Nat, 0 ≤ qTz s ∧ qTz s ≤ 5 := by
  intro s
  unfold qTz
  split
  · decide
  · split
    · decide
    · split
      · decide
      · split
        · decide
        · split <;> decide
theorem vNx_b (A : Nat → Nat) (s : Nat) : -1 ≤ vNx A s ∧ vNx A s ≤ 5 := by
  unfold vNx
  have := qTz_b (qAn s (vBh A s))
  split <;> omega
/-- one bit more -/
theorem qBm_or {c c' : Nat → Bool} {n k : Nat} (hk : k < n) (h : ∀ j, j < n → c' j = (c j || decide (j = k))) : qBm c n ||| 2 ^ k = qBm c' n := by
  refine qBm_uniq (Nat.or_lt_two_pow (qBm_lt _ _) (Nat.pow_lt_pow_right (by decide) hk)) (fun j hj => ?_)
  rw [Nat.testBit_or, qBm_bit, Nat.testBit_two_pow, decide_eq_true hj, Bool.true_and, h j hj]
  congr 1
  rw [Bool.eq_iff_iff, decide_eq_true_iff, decide_eq_true_iff]
  exact ⟨Eq.symm, Eq.symm⟩
theorem qBm_le {c : Nat → Bool} {n : Nat} (h : n ≤ 24) : qBm c n < 16777216 := Nat.lt_of_lt_of_le (qBm_lt c n) (show 2 ^ n ≤ 2 ^ 24 from Nat.pow_le_pow_right (by decide) h)
