/-! least costs from two places on, and the best alignment: plain numbers -/
def zGr (c : Int) : Int := if 97 ≤ c ∧ c ≤ 122 then zG0.getD (c - 97).toNat 0 else 0
def zKp (x y : Int) : Int := if x = y then 2 else if zGr x ≠ 0 ∧ zGr x = zGr y then 3 else 4
theorem zKp_in (x y : Int) : zKp x y = 2 ∨ zKp x y = 3 ∨ zKp x y = 4 := by
  unfold zKp
  split
  · exact Or.inl rfl
  · split
    · exact Or.inr (Or.inl rfl)
    · exact Or.inr (Or.inr rfl)
theorem zKc_p (x y : Int) : 0 ≤ zKc (zKp x y) ∧ zKc (zKp x y) ≤ 3 := by
  rcases zKp_in x y with h | h | h <;> rw [h] <;> decide
def qMin (p lo ad : Int) : Int := if (if ad < lo then ad else lo) < p then (if ad < lo then ad else lo) else p
theorem qMin_le (p lo ad : Int) : qMin p lo ad ≤ p ∧ qMin p lo ad ≤ lo ∧ qMin p lo ad ≤ ad ∧ (qMin p lo ad = p ∨ qMin p lo ad = lo ∨ qMin p lo ad = ad) := by
  unfold qMin
  split <;> split at * <;> omega
def zDP (f g : Int → Int) (n1 n2 b : Int) : Nat → Int → Int → Int
  | 0, i, j => if n1 < i ∨ n2 < j ∨ b < i - j ∨ b < j - i then 1000000 else if i = n1 ∧ j = n2 then 0 else 1000000
  | r + 1, i, j => if n1 < i ∨ n2 < j ∨ b < i - j ∨ b < j - i then 1000000 else if i = n1 ∧ j = n2 then 0 else qMin (zKc (zKp (f i) (g j)) + zDP f g n1 n2 b r (i + 1) (j + 1)) (2 + zDP f g n1 n2 b r (i + 1) j) (2 + zDP f g n1 n2 b r i (j + 1))
section ZDP
variable {f g : Int → Int} {n1 n2 b : Int}
theorem zDP_more : ∀ (r : Nat) (i j : Int), (n1 - i) + (n2 - j) ≤ r → zDP f g n1 n2 b (r + 1) i j = zDP f g n1 n2 b r i j := by
  intro r
  induction r with
  | zero =>
    intro i j h
    simp only [zDP]
    by_cases h1 : n1 < i ∨ n2 < j ∨ b < i - j ∨ b < j - i
    · rw [if_pos h1, if_pos h1]
    · rw [if_neg h1, if_neg h1]
      rw [if_pos (by omega), if_pos (by omega)]
  | succ r ih =>
    intro i j h
    have eL : ∀ r, zDP f g n1 n2 b (r + 1) i j = if n1 < i ∨ n2 < j ∨ b < i - j ∨ b < j - i then 1000000 else if i = n1 ∧ j = n2 then 0 else qMin (zKc (zKp (f i) (g j)) + zDP f g n1 n2 b r (i + 1) (j + 1)) (2 + zDP f g n1 n2 b r (i + 1) j) (2 + zDP f g n1 n2 b r i (j + 1)) := fun r => rfl
    rw [eL (r + 1), eL r]
    by_cases h1 : n1 < i ∨ n2 < j ∨ b < i - j ∨ b < j - i
    · rw [if_pos h1, if_pos h1]
    · rw [if_neg h1, if_neg h1]
      by_cases h2 : i = n1 ∧ j = n2
      · rw [if_pos h2, if_pos h2]
      · rw [if_neg h2, if_neg h2, ih (i + 1) (j + 1) (by omega), ih (i + 1) j (by omega), ih i (j + 1) (by omega)]
theorem zDP_big : ∀ (k r : Nat) (i j : Int), (n1 - i) + (n2 - j) ≤ r → zDP f g n1 n2 b (r + k) i j = zDP f g n1 n2 b r i j := by
  intro k
  induction k with
  | zero => intro r i j _; rfl
  | succ k ih =>
    intro r i j h
    rw [show r + (k + 1) = (r + k) + 1 by omega, zDP_more _ _ _ (by omega), ih r i j h]
/-- what it costs at least from i and j on -/
def zVl (f g : Int → Int) (n1 n2 b i j : Int) : Int := zDP f g n1 n2 b ((n1 - i) + (n2 - j)).toNat i j
theorem zVl_at {r : Nat} {i j : Int} (h : (n1 - i) + (n2 - j) ≤ r) : zDP f g n1 n2 b r i j = zVl f g n1 n2 b i j := by
  unfold zVl
  obtain ⟨k, rfl⟩ : ∃ k, r = ((n1 - i) + (n2 - j)).toNat + k := ⟨r - ((n1 - i) + (n2 - j)).toNat, by omega⟩
  exact zDP_big k _ i j (by omega)
theorem zVl_rec (i j : Int) : zVl f g n1 n2 b i j = if n1 < i ∨ n2 < j ∨ b < i - j ∨ b < j - i then 1000000 else if i = n1 ∧ j = n2 then 0 else qMin (zKc (zKp (f i) (g j)) + zVl f g n1 n2 b (i + 1) (j + 1)) (2 + zVl f g n1 n2 b (i + 1) j) (2 + zVl f g n1 n2 b i (j + 1)) := by
  rw [← zVl_at (r := ((n1 - i) + (n2 - j)).toNat + 1) (by omega), zDP]
  by_cases h1 : n1 < i ∨ n2 < j ∨ b < i - j ∨ b < j - i
  · rw [if_pos h1, if_pos h1]
  · rw [if_neg h1, if_neg h1]
    by_cases h2 : i = n1 ∧ j = n2
    · rw [if_pos h2, if_pos h2]
    · rw [if_neg h2, if_neg h2, zVl_at (by omega), zVl_at (by omega), zVl_at (by omega)]
theorem zVl_out {i j : Int} (h : n1 < i ∨ n2 < j ∨ b < i - j ∨ b < j - i) : zVl f g n1 n2 b i j = 1000000 := by rw [zVl_rec, if_pos h]
theorem zVl_nn : ∀ (r : Nat) (i j : Int), 0 ≤ zDP f g n1 n2 b r i j := by
  intro r
  induction r with
  | zero =>
    intro i j
    rw [zDP]
    split
    · omega
    · split <;> omega
  | succ r ih =>
    intro i j
    rw [zDP]
    split
    · omega
    · split
      · omega
      · have h1 := ih (i + 1) (j + 1)
        have h2 := ih (i + 1) j
        have h3 := ih i (j + 1)
        have h4 := zKc_p (f i) (g j)
        have h5 := qMin_le (zKc (zKp (f i) (g j)) + zDP f g n1 n2 b r (i + 1) (j + 1)) (2 + zDP f g n1 n2 b r (i + 1) j) (2 + zDP f g n1 n2 b r i (j + 1))
        omega
theorem zVl_0 (i j : Int) : 0 ≤ zVl f g n1 n2 b i j := zVl_nn _ _ _
/-- a cost is small, or it is none -/
theorem zVl_di : ∀ (r : Nat) (i j : Int), (n1 - i) + (n2 - j) = r → zVl f g n1 n2 b i j ≤ 2 * r ∨ 1000000 ≤ zVl f g n1 n2 b i j := by
  intro r
  induction r using Nat.strongRecOn with
  | _ r ih =>
    intro i j h
    rw [zVl_rec]
    split
    · right; omega
    · split
      · left; omega
      · next h1 h2 =>
        have h5 := qMin_le (zKc (zKp (f i) (g j)) + zVl f g n1 n2 b (i + 1) (j + 1)) (2 + zVl f g n1 n2 b (i + 1) j) (2 + zVl f g n1 n2 b i (j + 1))
        have h4 := zKc_p (f i) (g j)
        have g1 : zVl f g n1 n2 b (i + 1) (j + 1) ≤ 2 * ((r : Int) - 2) ∨ 1000000 ≤ zVl f g n1 n2 b (i + 1) (j + 1) := by
          by_cases e : i + 1 ≤ n1 ∧ j + 1 ≤ n2
          · rcases ih (r - 2) (by omega) (i + 1) (j + 1) (by omega) with z | z
            · left; omega
            · right; exact z
          · right; rw [zVl_out (by omega)]; omega
        have g2 : zVl f g n1 n2 b (i + 1) j ≤ 2 * ((r : Int) - 1) ∨ 1000000 ≤ zVl f g n1 n2 b (i + 1) j := by
          by_cases e : i + 1 ≤ n1
          · rcases ih (r - 1) (by omega) (i + 1) j (by omega) with z | z
            · left; omega
            · right; exact z
          · right; rw [zVl_out (by omega)]; omega
        have g3 : zVl f g n1 n2 b i (j + 1) ≤ 2 * ((r : Int) - 1) ∨ 1000000 ≤ zVl f g n1 n2 b i (j + 1) := by
          by_cases e : j + 1 ≤ n2
          · rcases ih (r - 1) (by omega) i (j + 1) (by omega) with z | z
            · left; omega
            · right; exact z
          · right; rw [zVl_out (by omega)]; omega
        omega
theorem zVl_ub (h1 : n1 ≤ 24) (h2 : n2 ≤ 24) {i j : Int} (h0 : 0 ≤ i) (h3 : 0 ≤ j) : zVl f g n1 n2 b i j ≤ 1000100 := by
  by_cases ho : n1 < i ∨ n2 < j ∨ b < i - j ∨ b < j - i
  · rw [zVl_out ho]; omega
  · -- going on along j
    have key : ∀ (k : Nat) (j : Int), n2 - j = k → zVl f g n1 n2 b i j ≤ 1000000 + 2 * (k + 1) := by
      intro k
      induction k with
      | zero =>
        intro j hj
        rw [zVl_rec]
        split
        · omega
        · split
          · omega
          · have h5 := qMin_le (zKc (zKp (f i) (g j)) + zVl f g n1 n2 b (i + 1) (j + 1)) (2 + zVl f g n1 n2 b (i + 1) j) (2 + zVl f g n1 n2 b i (j + 1))
            have h6 : zVl f g n1 n2 b i (j + 1) = 1000000 := zVl_out (by omega)
            omega
      | succ k ih =>
        intro j hj
        rw [zVl_rec]
        split
        · omega
        · split
          · omega
          · have h5 := qMin_le (zKc (zKp (f i) (g j)) + zVl f g n1 n2 b (i + 1) (j + 1)) (2 + zVl f g n1 n2 b (i + 1) j) (2 + zVl f g n1 n2 b i (j + 1))
            have h6 := ih (j + 1) (by omega)
            omega
    have := key (n2 - j).toNat j (by omega)
    omega
/-- in the band there is always a way on, if the ends are in the band -/
theorem zVl_fin (he : n1 - n2 ≤ b ∧ n2 - n1 ≤ b) : ∀ (r : Nat) (i j : Int), (n1 - i) + (n2 - j) = r → i ≤ n1 → j ≤ n2 → i - j ≤ b → j - i ≤ b → zVl f g n1 n2 b i j ≤ 2 * r := by
  intro r
  induction r using Nat.strongRecOn with
  | _ r ih =>
    intro i j h hi hj h1 h2
    rw [zVl_rec, if_neg (by omega)]
    split
    · omega
    · next h3 =>
      have h5 := qMin_le (zKc (zKp (f i) (g j)) + zVl f g n1 n2 b (i + 1) (j + 1)) (2 + zVl f g n1 n2 b (i + 1) j) (2 + zVl f g n1 n2 b i (j + 1))
      have h4 := zKc_p (f i) (g j)
      by_cases hi2 : i < n1
      · by_cases hj2 : j < n2
        · have := ih (r - 2) (by omega) (i + 1) (j + 1) (by omega) (by omega) (by omega) (by omega) (by omega)
          omega
        · have := ih (r - 1) (by omega) (i + 1) j (by omega) (by omega) (by omega) (by omega) (by omega)
          omega
      · have := ih (r - 1) (by omega) i (j + 1) (by omega) (by omega) (by omega) (by omega) (by omega)
        omega
/-- the step at two places -/
def qDc (f g : Int → Int) (n1 n2 b i j : Int) : Int := if i < n1 ∧ j < n2 ∧ zVl f g n1 n2 b i j = zKc (zKp (f i) (g j)) + zVl f g n1 n2 b (i + 1) (j + 1) then 0 else if i < n1 ∧ (¬ j < n2 ∨ zVl f g n1 n2 b i j = 2 + zVl f g n1 n2 b (i + 1) j) then 1 else 2
/-- the places before a step -/
def qPs (f g : Int → Int) (n1 n2 b : Int) : Nat → Int × Int
  | 0 => (0, 0)
  | k + 1 => ((qPs f g n1 n2 b k).1 + (if qDc f g n1 n2 b (qPs f g n1 n2 b k).1 (qPs f g n1 n2 b k).2 = 2 then 0 else 1), (qPs f g n1 n2 b k).2 + (if qDc f g n1 n2 b (qPs f g n1 n2 b k).1 (qPs f g n1 n2 b k).2 = 1 then 0 else 1))
def qSt (f g : Int → Int) (n1 n2 b : Int) (k : Nat) : Int := qDc f g n1 n2 b (qPs f g n1 n2 b k).1 (qPs f g n1 n2 b k).2
/-- the sort of a step: 2 to 6 -/
def qKd (f g : Int → Int) (n1 n2 b : Int) (k : Nat) : Int := if qSt f g n1 n2 b k = 0 then zKp (f (qPs f g n1 n2 b k).1) (g (qPs f g n1 n2 b k).2) else if qSt f g n1 n2 b k = 1 then 5 else 6
/-- how many of the first k steps are of a sort -/
def qCt (f g : Int → Int) (n1 n2 b : Int) (x : Int) : Nat → Int
  | 0 => 0
  | k + 1 => qCt f g n1 n2 b x k + (if qKd f g n1 n2 b k = x then 1 else 0)
def qSm (f g : Int → Int) (n1 n2 b : Int) : Nat → Int
  | 0 => 0
  | k + 1 => qSm f g n1 n2 b k + zKc (qKd f g n1 n2 b k)
theorem qDc_in (i j : Int) : qDc f g n1 n2 b i j = 0 ∨ qDc f g n1 n2 b i j = 1 ∨ qDc f g n1 n2 b i j = 2 := by
  unfold qDc
  split
  · exact Or.inl rfl
  · split
    · exact Or.inr (Or.inl rfl)
    · exact Or.inr (Or.inr rfl)
/-- one step on, in the band, towards the end -/
theorem qDc_ok (he : n1 - n2 ≤ b ∧ n2 - n1 ≤ b) (h1 : n1 ≤ 24) (h2 : n2 ≤ 24) {i j : Int} (i0 : 0 ≤ i) (j0 : 0 ≤ j) (hi : i ≤ n1) (hj : j ≤ n2) (hb1 : i - j ≤ b) (hb2 : j - i ≤ b) (hne : ¬ (i = n1 ∧ j = n2)) :
    (qDc f g n1 n2 b i j = 0 ∧ i < n1 ∧ j < n2 ∧ zVl f g n1 n2 b i j = zKc (zKp (f i) (g j)) + zVl f g n1 n2 b (i + 1) (j + 1)) ∨
    (qDc f g n1 n2 b i j = 1 ∧ i < n1 ∧ i + 1 - j ≤ b ∧ zVl f g n1 n2 b i j = 2 + zVl f g n1 n2 b (i + 1) j) ∨
    (qDc f g n1 n2 b i j = 2 ∧ j < n2 ∧ j + 1 - i ≤ b ∧ zVl f g n1 n2 b i j = 2 + zVl f g n1 n2 b i (j + 1)) := by
  have hf := zVl_fin (f := f) (g := g) he ((n1 - i) + (n2 - j)).toNat i j (by omega) hi hj hb1 hb2
  have hr := zVl_rec (f := f) (g := g) (n1 := n1) (n2 := n2) (b := b) i j
  rw [if_neg (by omega), if_neg hne] at hr
  have h5 := qMin_le (zKc (zKp (f i) (g j)) + zVl f g n1 n2 b (i + 1) (j + 1)) (2 + zVl f g n1 n2 b (i + 1) j) (2 + zVl f g n1 n2 b i (j + 1))
  have h4 := zKc_p (f i) (g j)
  have p1 : n1 < i + 1 ∨ n2 < j + 1 → zVl f g n1 n2 b (i + 1) (j + 1) = 1000000 := fun z => zVl_out (by omega)
  have p2 : n1 < i + 1 ∨ b < i + 1 - j → zVl f g n1 n2 b (i + 1) j = 1000000 := fun z => zVl_out (by omega)
  have p3 : n2 < j + 1 ∨ b < j + 1 - i → zVl f g n1 n2 b i (j + 1) = 1000000 := fun z => zVl_out (by omega)
  unfold qDc
  by_cases c1 : i < n1 ∧ j < n2 ∧ zVl f g n1 n2 b i j = zKc (zKp (f i) (g j)) + zVl f g n1 n2 b (i + 1) (j + 1)
  · rw [if_pos c1]
    exact Or.inl ⟨rfl, c1⟩
  · rw [if_neg c1]
    by_cases c2 : i < n1 ∧ (¬ j < n2 ∨ zVl f g n1 n2 b i j = 2 + zVl f g n1 n2 b (i + 1) j)
    · rw [if_pos c2]
      refine Or.inr (Or.inl ⟨rfl, c2.1, ?_, ?_⟩)
      · by_cases z : b < i + 1 - j
        · have := p2 (Or.inr z)
          by_cases zj : j < n2
          · omega
          · omega
        · omega
      · by_cases zj : j < n2
        · omega
        · have := p1 (by omega)
          have := p3 (by omega)
          omega
    · rw [if_neg c2]
      have hj2 : j < n2 := by
        by_cases zj : j < n2
        · exact zj
        · exact absurd ⟨show i < n1 by omega, Or.inl zj⟩ c2
      have hv : zVl f g n1 n2 b i j = 2 + zVl f g n1 n2 b i (j + 1) := by
        by_cases zi : i < n1
        · have : ¬ zVl f g n1 n2 b i j = zKc (zKp (f i) (g j)) + zVl f g n1 n2 b (i + 1) (j + 1) := fun z => c1 ⟨zi, hj2, z⟩
          have : ¬ zVl f g n1 n2 b i j = 2 + zVl f g n1 n2 b (i + 1) j := fun z => c2 ⟨zi, Or.inr z⟩
          omega
        · have := p1 (by omega)
          have := p2 (by omega)
          omega
      refine Or.inr (Or.inr ⟨rfl, hj2, ?_, hv⟩)
      by_cases z : b < j + 1 - i
      · have := p3 (Or.inr z)
        omega
      · omega
/-- the places stay in the band, and the costs so far with the costs to come are all -/
theorem qPs_ok (he : n1 - n2 ≤ b ∧ n2 - n1 ≤ b) (h1 : n1 ≤ 24) (h2 : n2 ≤ 24) (h10 : 0 ≤ n1) (h20 : 0 ≤ n2) (hb : 0 ≤ b) : ∀ k : Nat, (∀ t, t < k → ¬ ((qPs f g n1 n2 b t).1 = n1 ∧ (qPs f g n1 n2 b t).2 = n2)) →
    0 ≤ (qPs f g n1 n2 b k).1 ∧ (qPs f g n1 n2 b k).1 ≤ n1 ∧ 0 ≤ (qPs f g n1 n2 b k).2 ∧ (qPs f g n1 n2 b k).2 ≤ n2 ∧ (qPs f g n1 n2 b k).1 - (qPs f g n1 n2 b k).2 ≤ b ∧ (qPs f g n1 n2 b k).2 - (qPs f g n1 n2 b k).1 ≤ b ∧ (k : Int) ≤ (qPs f g n1 n2 b k).1 + (qPs f g n1 n2 b k).2 ∧ qSm f g n1 n2 b k + zVl f g n1 n2 b (qPs f g n1 n2 b k).1 (qPs f g n1 n2 b k).2 = zVl f g n1 n2 b 0 0 := by
  intro k
  induction k with
  | zero =>
    intro _
    simp only [qPs, qSm]
    omega
  | succ k ih =>
    intro hk
    obtain ⟨a1, a2, a3, a4, a5, a6, a7, a8⟩ := ih (fun t ht => hk t (by omega))
    have hd := qDc_ok (f := f) (g := g) he h1 h2 a1 a3 a2 a4 a5 a6 (hk k (by omega))
    have hkd : qKd f g n1 n2 b k = if qDc f g n1 n2 b (qPs f g n1 n2 b k).1 (qPs f g n1 n2 b k).2 = 0 then zKp (f (qPs f g n1 n2 b k).1) (g (qPs f g n1 n2 b k).2) else if qDc f g n1 n2 b (qPs f g n1 n2 b k).1 (qPs f g n1 n2 b k).2 = 1 then 5 else 6 := rfl
    simp only [qPs, qSm]
    generalize (qPs f g n1 n2 b k).1 = i at *
    generalize (qPs f g n1 n2 b k).2 = j at *
    rcases hd with ⟨e, q1, q2, q3⟩ | ⟨e, q1, q2, q3⟩ | ⟨e, q1, q2, q3⟩
    · rw [hkd, e]
      simp only [show ((0 : Int) = 2) = False by decide, show ((0 : Int) = 1) = False by decide, if_false, if_true]
      omega
    · rw [hkd, e]
      simp only [show ((1 : Int) = 2) = False by decide, show ((1 : Int) = 0) = False by decide, if_false, if_true, show zKc 5 = 2 by decide, Int.add_zero]
      omega
    · rw [hkd, e]
      simp only [show ((2 : Int) = 1) = False by decide, show ((2 : Int) = 0) = False by decide, if_false, if_true, show zKc 6 = 2 by decide, Int.add_zero]
      omega
/-- the number of steps -/
def qEn (f g : Int → Int) (n1 n2 b : Int) (K : Nat) : Prop := ((qPs f g n1 n2 b K).1 = n1 ∧ (qPs f g n1 n2 b K).2 = n2) ∧ ∀ t, t < K → ¬ ((qPs f g n1 n2 b t).1 = n1 ∧ (qPs f g n1 n2 b t).2 = n2)
theorem qEn_one {K K' : Nat} (h : qEn f g n1 n2 b K) (h' : qEn f g n1 n2 b K') : K = K' := by
  rcases Nat.lt_trichotomy K K' with z | z | z
  · exact absurd h.1 (h'.2 K z)
  · exact z
  · exact absurd h'.1 (h.2 K' z)
theorem qCt_nn (x : Int) : ∀ k, 0 ≤ qCt f g n1 n2 b x k ∧ qCt f g n1 n2 b x k ≤ k := by
  intro k
  induction k with
  | zero => exact ⟨Int.le_refl _, Int.le_refl _⟩
  | succ k ih =>
    simp only [qCt]
    split <;> omega
end ZDP
