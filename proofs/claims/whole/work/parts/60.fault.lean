/-! the fewest sightings that must be wrong: plain functions -/
def vNc (A : Nat → Nat) : Nat → Nat
  | 0 => 63
  | k + 1 => vNc A k &&& vBh A (vNc A k)
def vOut (o : Nat) : Int → Bool := fun i => !o.testBit i.toNat
def vOk (Y : qYt) (o : Nat) : Bool := decide (vNc (vA Y (vOut o)) 6 = 0)
def vSe (ok : Nat → Bool) (n : Int) : Nat → Int × Nat
  | 0 => (n + 1, 0)
  | t + 1 => if qPc t 24 < (vSe ok n t).1 ∧ ok t = true then (qPc t 24, t) else vSe ok n t
def vFt (Y : qYt) : Nat := (vSe (vOk Y) Y.1 (2 ^ Y.1.toNat)).2
theorem vNc_lt (A : Nat → Nat) : ∀ k, vNc A k < 64 := by
  intro k
  induction k with
  | zero => show 63 < 64; decide
  | succ k ih => simp only [vNc]; exact Nat.lt_of_le_of_lt Nat.and_le_left ih
theorem vNc_0 (A : Nat → Nat) {k : Nat} (h : vNc A k = 0) : ∀ m, vNc A (k + m) = 0 := by
  intro m
  induction m with
  | zero => exact h
  | succ m ih => rw [show k + (m + 1) = (k + m) + 1 by omega]; simp only [vNc]; rw [ih, Nat.zero_and]
theorem vSe_b (ok : Nat → Bool) {n : Int} (h : 0 ≤ n) : ∀ t, 0 ≤ (vSe ok n t).1 ∧ (vSe ok n t).1 ≤ n + 1 := by
  intro t
  induction t with
  | zero => simp only [vSe]; omega
  | succ t ih =>
    have := qPc_b t 24
    simp only [vSe]
    split
    · simp only; omega
    · exact ih
theorem vSe_0 (ok : Nat → Bool) {n : Int} {k : Nat} (h : (vSe ok n k).1 ≤ 0) : ∀ m, vSe ok n (k + m) = vSe ok n k := by
  intro m
  induction m with
  | zero => rfl
  | succ m ih =>
    have := qPc_b (k + m) 24
    rw [show k + (m + 1) = (k + m) + 1 by omega]
    simp only [vSe]
    rw [if_neg (by rw [ih]; omega)]
    exact ih
theorem vPc_full : ∀ n : Nat, n ≤ 12 → qPc (2 ^ n - 1) 24 = n := by decide +kernel
theorem vOk_all {Y : qYt} (h : 0 ≤ Y.1) : vOk Y (2 ^ Y.1.toNat - 1) = true := by
  unfold vOk
  refine decide_eq_true ?_
  have hA : ∀ f, vA Y (vOut (2 ^ Y.1.toNat - 1)) f = 0 := by
    intro f
    unfold vA
    rw [qBm_congr (c' := fun _ => false) (n := 6) (fun g hg => ?_)]
    · decide
    · rw [Bool.eq_false_iff]
      intro hz
      unfold vAh at hz
      rw [qEx_iff] at hz
      obtain ⟨i, i0, i1, hz⟩ := hz
      rw [qEx_iff] at hz
      obtain ⟨j, j0, j1, hz⟩ := hz
      unfold vOut at hz
      rw [Nat.testBit_two_pow_sub_one, decide_eq_true (show i.toNat < Y.1.toNat by omega)] at hz
      simp at hz
  have hB : ∀ s, vBh (vA Y (vOut (2 ^ Y.1.toNat - 1))) s = 0 := by
    intro s
    unfold vBh
    rw [qBm_congr (c' := fun _ => false) (n := 6) (fun g hg => ?_)]
    · decide
    · rw [Bool.eq_false_iff]
      intro hz
      rw [qEx_iff] at hz
      obtain ⟨f, f0, f1, hz⟩ := hz
      rw [hA] at hz
      simp at hz
  have h1 : vNc (vA Y (vOut (2 ^ Y.1.toNat - 1))) 1 = 0 := by
    simp only [vNc]
    rw [hB, Nat.and_zero]
  exact vNc_0 _ h1 5
theorem vSe_end {Y : qYt} (hi : qYi Y) : (vSe (vOk Y) Y.1 (2 ^ Y.1.toNat)).1 ≤ Y.1 := by
  have hn := hi.1
  have hp : 0 < 2 ^ Y.1.toNat := Nat.pow_pos (by decide)
  rw [show 2 ^ Y.1.toNat = (2 ^ Y.1.toNat - 1) + 1 by omega]
  simp only [vSe]
  have hf := vPc_full Y.1.toNat (by omega)
  by_cases e : qPc (2 ^ Y.1.toNat - 1) 24 < (vSe (vOk Y) Y.1 (2 ^ Y.1.toNat - 1)).1
  · rw [if_pos ⟨e, vOk_all hn.1⟩]; simp only; omega
  · rw [if_neg (fun z => e z.1)]; omega
/-- no more than 66 pairs -/
theorem qS_add (f g : Int → Int) : ∀ n : Nat, qS (fun k => f k + g k) n = qS f n + qS g n := by
  intro n
  induction n with
  | zero => rfl
  | succ n ih => simp only [qS]; rw [ih]; omega
theorem qS_N (c : Int → Bool) : ∀ n : Nat, qS (fun k => if c k = true then 1 else 0) n = qN c n := by
  intro n
  induction n with
  | zero => rfl
  | succ n ih => simp only [qS, qN]; rw [ih]
theorem qN_ex {c c' : Int → Bool} : ∀ {n : Nat}, (∀ k : Int, 0 ≤ k → k < n → c k = true → c' k = false) → qN c n + qN c' n ≤ n := by
  intro n
  induction n with
  | zero => intro _; show (0 : Int) + 0 ≤ 0; decide
  | succ n ih =>
    intro h
    have h1 := ih (fun k k0 k1 => h k k0 (by omega))
    have h2 := h n (by omega) (by omega)
    simp only [qN]
    by_cases e : c (n : Int) = true
    · rw [if_pos e, if_neg (by rw [h2 e]; decide)]; omega
    · rw [if_neg e]; split <;> omega
def vPn (Y : qYt) (n k : Nat) : Int := qS (fun a => qN (fun b => vLw Y a b) n) k
theorem vPn_b (Y : qYt) : ∀ n : Nat, 2 * vPn Y n n ≤ (n : Int) * n - n := by
  intro n
  induction n with
  | zero => show 2 * (0 : Int) ≤ 0 * 0 - 0; decide
  | succ n ih =>
    have e1 : vPn Y (n + 1) (n + 1) = vPn Y n n + qN (fun a => vLw Y a n) n + (qN (fun b => vLw Y n b) n + (if vLw Y n n = true then 1 else 0)) := by
      unfold vPn
      show qS (fun a => qN (fun b => vLw Y a b) n + (if vLw Y a n = true then 1 else 0)) n + _ = _
      rw [qS_add, qS_N]
      rfl
    have e2 : vLw Y n n = false := decide_eq_false (fun z => by have := z.2; omega)
    have e3 := qN_ex (c := fun a => vLw Y a n) (c' := fun b => vLw Y n b) (n := n) (fun k k0 k1 hk => by
      have := of_decide_eq_true hk
      exact decide_eq_false (fun z => by have := z.2; omega))
    rw [e2, if_neg (by decide)] at e1
    have e4 : ((n + 1 : Nat) : Int) * ((n + 1 : Nat) : Int) - ((n + 1 : Nat) : Int) = ((n : Int) * n - n) + 2 * n := by
      rw [show ((n + 1 : Nat) : Int) = (n : Int) + 1 by omega, Int.add_mul, Int.mul_add]; omega
    rw [e4, e1]
    omega
theorem vPn_66 (Y : qYt) {n : Nat} (h : n ≤ 12) : vPn Y n n ≤ 66 := by
  have h1 := vPn_b Y n
  have h2 : (n : Int) * n - n ≤ 132 := by
    rcases (show n = 0 ∨ n = 1 ∨ n = 2 ∨ n = 3 ∨ n = 4 ∨ n = 5 ∨ n = 6 ∨ n = 7 ∨ n = 8 ∨ n = 9 ∨ n = 10 ∨ n = 11 ∨ n = 12 by omega) with e | e | e | e | e | e | e | e | e | e | e | e | e <;> rw [e] <;> decide
  omega
theorem qN_le (c : Int → Bool) (n : Nat) : ∀ m : Nat, qN c n ≤ qN c (n + m) := by
  intro m
  induction m with
  | zero => exact Int.le_refl _
  | succ m ih => rw [show n + (m + 1) = (n + m) + 1 by omega]; simp only [qN]; split <;> omega
theorem vPn_le (Y : qYt) (n : Nat) (k : Nat) : ∀ m : Nat, vPn Y n k ≤ vPn Y n (k + m) := by
  intro m
  induction m with
  | zero => exact Int.le_refl _
  | succ m ih =>
    have := qN_b (fun b => vLw Y ((k + m : Nat) : Int) b) n
    unfold vPn at ih ⊢
    rw [show k + (m + 1) = (k + m) + 1 by omega]
    simp only [qS]
    omega
/-- the count before a pair that is less worn -/
theorem vPn_at (Y : qYt) {n a b : Nat} (hn : n ≤ 12) (ha : a < n) (hb : b < n) (h : vLw Y a b = true) : vPn Y n a + qN (fun b => vLw Y a b) b < 66 := by
  have h1 := vPn_66 Y hn
  have h2 := vPn_le Y n (a + 1) (n - (a + 1))
  rw [show a + 1 + (n - (a + 1)) = n by omega] at h2
  have h3 := qN_le (fun b => vLw Y a b) (b + 1) (n - (b + 1))
  rw [show b + 1 + (n - (b + 1)) = n by omega] at h3
  have e1 : vPn Y n (a + 1) = vPn Y n a + qN (fun b => vLw Y a b) n := rfl
  have e2 : qN (fun b => vLw Y a b) (b + 1) = qN (fun b => vLw Y a b) b + (if vLw Y a b = true then 1 else 0) := rfl
  rw [if_pos h] at e2
  omega
