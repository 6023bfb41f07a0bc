/-! the model's least costs: plain numbers -/
def mFt : List Int := [98, 99, 100, 99, 102, 103, 98, 105, 105, 107, 105, 109, 110, 99, 112, 113, 114, 102, 114, 110, 110]
def mFm (x : Int) : Int := if 98 ≤ x ∧ x ≤ 118 then mFt.getD (x - 98).toNat 0 else x
theorem mPc_all : ∀ x, x < 26 → ∀ y, y < 26 → (if ((97 + x : Nat) : Int) = ((97 + y : Nat) : Int) then (0 : Int) else if mFm ((97 + x : Nat) : Int) = mFm ((97 + y : Nat) : Int) then 1 else 3) = zKc (zKp ((97 + x : Nat) : Int) ((97 + y : Nat) : Int)) := by decide +kernel
theorem mPc {x y : Int} (hx : 97 ≤ x ∧ x ≤ 122) (hy : 97 ≤ y ∧ y ≤ 122) : (if x = y then (0 : Int) else if mFm x = mFm y then 1 else 3) = zKc (zKp x y) := by
  have h := mPc_all (x - 97).toNat (by omega) (y - 97).toNat (by omega)
  rw [show ((97 + (x - 97).toNat : Nat) : Int) = x by omega, show ((97 + (y - 97).toNat : Nat) : Int) = y by omega] at h
  exact h
section MDP
variable {f g : Int → Int} {n1 n2 b : Int}
def mVl (f g : Int → Int) (n1 n2 b i j : Int) : Int := if zVl f g n1 n2 b i j < 1000000 then zVl f g n1 n2 b i j else 1048576
def mBy (f g : Int → Int) (n1 n2 b i j s : Int) : Int := if s = 0 then (if i < n1 ∧ j < n2 then mVl f g n1 n2 b (i + 1) (j + 1) + zKc (zKp (f i) (g j)) else 1048576) else if s = 1 then (if i < n1 then 2 + mVl f g n1 n2 b (i + 1) j else 1048576) else (if j < n2 then 2 + mVl f g n1 n2 b i (j + 1) else 1048576)
/-- where there is a way, the ends are in the band -/
theorem zVl_he : ∀ (r : Nat) (i j : Int), (n1 - i) + (n2 - j) = r → i ≤ n1 → j ≤ n2 → zVl f g n1 n2 b i j < 1000000 → n1 - n2 ≤ b ∧ n2 - n1 ≤ b := by
  intro r
  induction r using Nat.strongRecOn with
  | _ r ih =>
    intro i j h hi hj
    rw [zVl_rec]
    split
    · intro z; omega
    · split
      · intro z; omega
      · next h1 h2 =>
        intro z
        have h5 := qMin_le (zKc (zKp (f i) (g j)) + zVl f g n1 n2 b (i + 1) (j + 1)) (2 + zVl f g n1 n2 b (i + 1) j) (2 + zVl f g n1 n2 b i (j + 1))
        have h4 := zKc_p (f i) (g j)
        have p1 : n1 < i + 1 ∨ n2 < j + 1 → zVl f g n1 n2 b (i + 1) (j + 1) = 1000000 := fun z => zVl_out (by omega)
        have p2 : n1 < i + 1 → zVl f g n1 n2 b (i + 1) j = 1000000 := fun z => zVl_out (by omega)
        have p3 : n2 < j + 1 → zVl f g n1 n2 b i (j + 1) = 1000000 := fun z => zVl_out (by omega)
        rcases h5.2.2.2 with e | e | e
        · by_cases q : i + 1 ≤ n1 ∧ j + 1 ≤ n2
          · exact ih (r - 2) (by omega) (i + 1) (j + 1) (by omega) q.1 q.2 (by omega)
          · have := p1 (by omega)
            omega
        · by_cases q : i + 1 ≤ n1
          · exact ih (r - 1) (by omega) (i + 1) j (by omega) q hj (by omega)
          · have := p2 (by omega)
            omega
        · by_cases q : j + 1 ≤ n2
          · exact ih (r - 1) (by omega) i (j + 1) (by omega) hi q (by omega)
          · have := p3 (by omega)
            omega
theorem zVl_sm (h1 : n1 ≤ 24) (h2 : n2 ≤ 24) {i j : Int} (i0 : 0 ≤ i) (j0 : 0 ≤ j) : zVl f g n1 n2 b i j ≤ 96 ∨ 1000000 ≤ zVl f g n1 n2 b i j := by
  by_cases e : i ≤ n1 ∧ j ≤ n2
  · rcases zVl_di (f := f) (g := g) (n1 := n1) (n2 := n2) (b := b) ((n1 - i) + (n2 - j)).toNat i j (by omega) with z | z
    · left; omega
    · right; exact z
  · right; rw [zVl_out (by omega)]; omega
theorem mVl_sm (h1 : n1 ≤ 24) (h2 : n2 ≤ 24) {i j : Int} (i0 : 0 ≤ i) (j0 : 0 ≤ j) : (0 ≤ mVl f g n1 n2 b i j ∧ mVl f g n1 n2 b i j ≤ 96 ∧ mVl f g n1 n2 b i j = zVl f g n1 n2 b i j) ∨ (mVl f g n1 n2 b i j = 1048576 ∧ 1000000 ≤ zVl f g n1 n2 b i j) := by
  have h0 := zVl_0 (f := f) (g := g) (n1 := n1) (n2 := n2) (b := b) i j
  unfold mVl
  rcases zVl_sm (f := f) (g := g) (b := b) h1 h2 i0 j0 with z | z
  · rw [if_pos (by omega)]; left; omega
  · rw [if_neg (by omega)]; right; omega
theorem mVl_b (h1 : n1 ≤ 24) (h2 : n2 ≤ 24) {i j : Int} (i0 : 0 ≤ i) (j0 : 0 ≤ j) : 0 ≤ mVl f g n1 n2 b i j ∧ mVl f g n1 n2 b i j ≤ 1048576 := by
  have := mVl_sm (f := f) (g := g) (b := b) h1 h2 i0 j0
  omega
theorem mBy_b (h1 : n1 ≤ 24) (h2 : n2 ≤ 24) {i j : Int} (i0 : 0 ≤ i) (j0 : 0 ≤ j) (s : Int) : 0 ≤ mBy f g n1 n2 b i j s ∧ mBy f g n1 n2 b i j s ≤ 1048600 := by
  have a1 := mVl_b (f := f) (g := g) (b := b) h1 h2 (show 0 ≤ i + 1 by omega) (show 0 ≤ j + 1 by omega)
  have a2 := mVl_b (f := f) (g := g) (b := b) h1 h2 (show 0 ≤ i + 1 by omega) j0
  have a3 := mVl_b (f := f) (g := g) (b := b) h1 h2 i0 (show 0 ≤ j + 1 by omega)
  have h4 := zKc_p (f i) (g j)
  unfold mBy
  split
  · split <;> omega
  · split
    · split <;> omega
    · split <;> omega
theorem mBy_0 (i j : Int) : mBy f g n1 n2 b i j 0 = if i < n1 ∧ j < n2 then mVl f g n1 n2 b (i + 1) (j + 1) + zKc (zKp (f i) (g j)) else 1048576 := if_pos rfl
theorem mBy_1 (i j : Int) : mBy f g n1 n2 b i j 1 = if i < n1 then 2 + mVl f g n1 n2 b (i + 1) j else 1048576 := (if_neg (by decide)).trans (if_pos rfl)
theorem mBy_2 (i j : Int) : mBy f g n1 n2 b i j 2 = if j < n2 then 2 + mVl f g n1 n2 b i (j + 1) else 1048576 := (if_neg (by decide)).trans (if_neg (by decide))
theorem mVl_out {i j : Int} (h : b < i - j ∨ b < j - i) : mVl f g n1 n2 b i j = 1048576 := by
  unfold mVl
  rw [zVl_out (by omega), if_neg (by omega)]
theorem mVl_end {i j : Int} (h : ¬ (b < i - j ∨ b < j - i)) (hi : i = n1) (hj : j = n2) : mVl f g n1 n2 b i j = 0 := by
  have : zVl f g n1 n2 b i j = 0 := by rw [zVl_rec, if_neg (by omega), if_pos ⟨hi, hj⟩]
  unfold mVl
  rw [this]
  rfl
theorem mVl_min (h1 : n1 ≤ 24) (h2 : n2 ≤ 24) {i j : Int} (i0 : 0 ≤ i) (j0 : 0 ≤ j) (hi : i ≤ n1) (hj : j ≤ n2) (hb : ¬ (b < i - j ∨ b < j - i)) (he : ¬ (i = n1 ∧ j = n2)) : mVl f g n1 n2 b i j ≤ mBy f g n1 n2 b i j 0 ∧ mVl f g n1 n2 b i j ≤ mBy f g n1 n2 b i j 1 ∧ mVl f g n1 n2 b i j ≤ mBy f g n1 n2 b i j 2 ∧ mVl f g n1 n2 b i j ≤ 1048576 ∧ (mVl f g n1 n2 b i j = mBy f g n1 n2 b i j 0 ∨ mVl f g n1 n2 b i j = mBy f g n1 n2 b i j 1 ∨ mVl f g n1 n2 b i j = mBy f g n1 n2 b i j 2 ∨ mVl f g n1 n2 b i j = 1048576) := by
  have hr := zVl_rec (f := f) (g := g) (n1 := n1) (n2 := n2) (b := b) i j
  rw [if_neg (by omega), if_neg he] at hr
  have h5 := qMin_le (zKc (zKp (f i) (g j)) + zVl f g n1 n2 b (i + 1) (j + 1)) (2 + zVl f g n1 n2 b (i + 1) j) (2 + zVl f g n1 n2 b i (j + 1))
  rw [← hr] at h5
  have h4 := zKc_p (f i) (g j)
  have p1 : n1 < i + 1 ∨ n2 < j + 1 → zVl f g n1 n2 b (i + 1) (j + 1) = 1000000 := fun z => zVl_out (by omega)
  have p2 : n1 < i + 1 → zVl f g n1 n2 b (i + 1) j = 1000000 := fun z => zVl_out (by omega)
  have p3 : n2 < j + 1 → zVl f g n1 n2 b i (j + 1) = 1000000 := fun z => zVl_out (by omega)
  have a0 := mVl_sm (f := f) (g := g) (b := b) h1 h2 i0 j0
  have a1 := mVl_sm (f := f) (g := g) (b := b) h1 h2 (show 0 ≤ i + 1 by omega) (show 0 ≤ j + 1 by omega)
  have a2 := mVl_sm (f := f) (g := g) (b := b) h1 h2 (show 0 ≤ i + 1 by omega) j0
  have a3 := mVl_sm (f := f) (g := g) (b := b) h1 h2 i0 (show 0 ≤ j + 1 by omega)
  have b0 := zVl_0 (f := f) (g := g) (n1 := n1) (n2 := n2) (b := b) i j
  rw [mBy_0, mBy_1, mBy_2]
  generalize mVl f g n1 n2 b i j = m0 at *
  generalize mVl f g n1 n2 b (i + 1) (j + 1) = m1 at *
  generalize mVl f g n1 n2 b (i + 1) j = m2 at *
  generalize mVl f g n1 n2 b i (j + 1) = m3 at *
  generalize zVl f g n1 n2 b i j = v0 at *
  generalize zVl f g n1 n2 b (i + 1) (j + 1) = v1 at *
  generalize zVl f g n1 n2 b (i + 1) j = v2 at *
  generalize zVl f g n1 n2 b i (j + 1) = v3 at *
  by_cases e1 : i < n1
  · by_cases e2 : j < n2
    · rw [if_pos ⟨e1, e2⟩, if_pos e1, if_pos e2]; omega
    · rw [if_neg (fun z => e2 z.2), if_pos e1, if_neg e2]
      have := p1 (by omega)
      have := p3 (by omega)
      omega
  · by_cases e2 : j < n2
    · rw [if_neg (fun z => e1 z.1), if_neg e1, if_pos e2]
      have := p1 (by omega)
      have := p2 (by omega)
      omega
    · exact absurd ⟨show i = n1 by omega, show j = n2 by omega⟩ he
/-- the model's step is the step -/
theorem mBy_dc (h1 : n1 ≤ 24) (h2 : n2 ≤ 24) (he : n1 - n2 ≤ b ∧ n2 - n1 ≤ b) {i j : Int} (i0 : 0 ≤ i) (j0 : 0 ≤ j) (hi : i ≤ n1) (hj : j ≤ n2) (hb1 : i - j ≤ b) (hb2 : j - i ≤ b) (hne : ¬ (i = n1 ∧ j = n2)) :
    mBy f g n1 n2 b i j (qDc f g n1 n2 b i j) = mVl f g n1 n2 b i j ∧ ∀ s : Int, 0 ≤ s → s < qDc f g n1 n2 b i j → ¬ mBy f g n1 n2 b i j s = mVl f g n1 n2 b i j := by
  have hf := zVl_fin (f := f) (g := g) he ((n1 - i) + (n2 - j)).toNat i j (by omega) hi hj hb1 hb2
  have a0 := mVl_sm (f := f) (g := g) (b := b) h1 h2 i0 j0
  have a1 := mVl_sm (f := f) (g := g) (b := b) h1 h2 (show 0 ≤ i + 1 by omega) (show 0 ≤ j + 1 by omega)
  have a2 := mVl_sm (f := f) (g := g) (b := b) h1 h2 (show 0 ≤ i + 1 by omega) j0
  have a3 := mVl_sm (f := f) (g := g) (b := b) h1 h2 i0 (show 0 ≤ j + 1 by omega)
  have h4 := zKc_p (f i) (g j)
  have hk := qDc_ok (f := f) (g := g) he h1 h2 i0 j0 hi hj hb1 hb2 hne
  have c0 : ¬ qDc f g n1 n2 b i j = 0 → ¬ (i < n1 ∧ j < n2 ∧ zVl f g n1 n2 b i j = zKc (zKp (f i) (g j)) + zVl f g n1 n2 b (i + 1) (j + 1)) := fun z q => z (if_pos q)
  have c1 : qDc f g n1 n2 b i j = 2 → ¬ (i < n1 ∧ (¬ j < n2 ∨ zVl f g n1 n2 b i j = 2 + zVl f g n1 n2 b (i + 1) j)) := fun z q => by
    unfold qDc at z
    split at z
    · exact absurd z (by decide)
    · exact absurd z (by decide)
  rcases hk with ⟨e, q1, q2, q3⟩ | ⟨e, q1, q2, q3⟩ | ⟨e, q1, q2, q3⟩
  · rw [e]
    refine ⟨?_, fun s s0 s1 => by omega⟩
    rw [mBy_0, if_pos ⟨q1, q2⟩]
    omega
  · have c0 := c0 (by omega)
    rw [e]
    refine ⟨?_, fun s s0 s1 => ?_⟩
    · rw [mBy_1, if_pos q1]; omega
    · rw [show s = 0 by omega, mBy_0]
      split
      · next z => have := fun q => c0 ⟨z.1, z.2, q⟩; omega
      · omega
  · have c1 := c1 e
    have c0 := c0 (by omega)
    rw [e]
    refine ⟨?_, fun s s0 s1 => ?_⟩
    · rw [mBy_2, if_pos q1]; omega
    · rcases (show s = 0 ∨ s = 1 by omega) with z | z
      · rw [z, mBy_0]
        split
        · next z => have := fun q => c0 ⟨z.1, z.2, q⟩; omega
        · omega
      · rw [z, mBy_1]
        split
        · next z => have := fun q => c1 ⟨z, Or.inr q⟩; omega
        · omega
theorem mVl_in (h1 : n1 ≤ 24) (h2 : n2 ≤ 24) (h10 : 0 ≤ n1) (h20 : 0 ≤ n2) (hb : 0 ≤ b) : mVl f g n1 n2 b 0 0 < 1048576 ↔ (n1 - n2 ≤ b ∧ n2 - n1 ≤ b) := by
  have a0 := mVl_sm (f := f) (g := g) (b := b) h1 h2 (Int.le_refl 0) (Int.le_refl 0)
  constructor
  · intro z
    exact zVl_he (f := f) (g := g) (n1 + n2).toNat 0 0 (by omega) h10 h20 (by omega)
  · intro he
    have hf := zVl_fin (f := f) (g := g) he (n1 + n2).toNat 0 0 (by omega) h10 h20 (by omega) (by omega)
    omega
end MDP
