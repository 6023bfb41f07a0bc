/-! what is derived from copies and band: plain functions of (texts, lengths, band, number of copies) -/
abbrev qDt := (Int → Int → Int) × (Int → Int) × Int × Int
abbrev uIn (D : qDt) (x y : Int) : Prop := D.2.1 x - D.2.1 y ≤ D.2.2.1 ∧ D.2.1 y - D.2.1 x ≤ D.2.2.1
def uPl (D : qDt) : Int := if 0 < D.2.2.2 then D.2.1 0 else 0
def uRd (D : qDt) (c p : Int) : Int := qRf (D.1 0) (D.1 c) (D.2.1 0) (D.2.1 c) D.2.2.1 48 p
def uDf (D : qDt) (c c' : Int) : Int := qN (fun p => decide (¬ uRd D c p = uRd D c' p)) (uPl D).toNat
/-- the first of the states so far that has the readings of copy k -/
def uFs (D : qDt) (g : Int × Int × (Int → Int) × (Int → Int) × (Int → Int)) (k : Int) : Int := qFd (fun s => uDf D (g.2.2.1 s) k) g.1.toNat 0
/-- one copy more: (states, excluded, first copy, members, state of a copy) -/
def uGs (D : qDt) (g : Int × Int × (Int → Int) × (Int → Int) × (Int → Int)) (k : Int) : Int × Int × (Int → Int) × (Int → Int) × (Int → Int) :=
  if uIn D 0 k then
    (if uFs D g k < g.1 then (g.1, g.2.1, g.2.2.1, qPut g.2.2.2.1 (uFs D g k) (g.2.2.2.1 (uFs D g k) + 1), qPut g.2.2.2.2 k (uFs D g k))
     else (g.1 + 1, g.2.1, qPut g.2.2.1 g.1 k, qPut g.2.2.2.1 g.1 1, qPut g.2.2.2.2 k g.1))
  else (g.1, g.2.1 + 1, g.2.2.1, g.2.2.2.1, qPut g.2.2.2.2 k (-1))
def uG (D : qDt) : Nat → Int × Int × (Int → Int) × (Int → Int) × (Int → Int)
  | 0 => (0, 0, fun _ => 0, fun _ => 0, fun _ => 0)
  | k + 1 => uGs D (uG D k) (k : Int)
def uN (D : qDt) : Int := (uG D D.2.2.2.toNat).1
def uE (D : qDt) : Int := (uG D D.2.2.2.toNat).2.1
def uFi (D : qDt) : Int → Int := (uG D D.2.2.2.toNat).2.2.1
def uMe (D : qDt) : Int → Int := (uG D D.2.2.2.toNat).2.2.2.1
def uSo (D : qDt) : Int → Int := (uG D D.2.2.2.toNat).2.2.2.2
def uDs (D : qDt) (u v : Int) : Int := if (0 ≤ u ∧ u < uN D) ∧ 0 ≤ v ∧ v < uN D then uDf D (uFi D u) (uFi D v) else 0
def uT (D : qDt) : (Int → Int) × (Int → Int) × (Int → Int) := qTr (uDs D) (uN D).toNat 25 ((uN D).toNat - 1)
def uPm (D : qDt) (x : Int) : Int := if 0 ≤ x ∧ x < uN D then (uT D).1 x else -1
def uRS (D : qDt) (x p : Int) : Int := if 0 ≤ x ∧ x < uN D then uRd D (uFi D x) p else -1
def uGl (D : qDt) (p rd : Int) : Nat → Int → Int
  | 0, _ => 0
  | n + 1, a => if a = -1 then 0 else if uRS D a p = rd then 1 else uGl D p rd n (uPm D a)
def uGb (D : qDt) (x p : Int) : Int := if uPm D x = -1 ∨ uRS D (uPm D x) p = uRS D x p then 0 else uGl D p (uRS D x p) (uN D).toNat (uPm D (uPm D x))
def uAc (D : qDt) : Nat → Int → Int
  | 0, _ => 0
  | n + 1, x => if x = -1 then 0 else 1 + uAc D n (uPm D x)
def uMk (D : qDt) (s : Int) : Nat := qBm (fun p => decide (¬ uGb D s (p : Int) = 0)) (uPl D).toNat
/-- what a state tells, and what all states tell -/
def uDe (D : qDt) (s w : Int) : Int := if w = 0 then uFi D s else if w = 1 then uMe D s else if w = 2 then (uT D).1 s else if w = 3 then (uT D).2.1 s else if w = 4 then uAc D (uN D).toNat (uPm D s) else if w = 5 then qPc (uMk D s) 24 else (uT D).2.2 s
def uVp (D : qDt) : Int := qN (fun p => qEx (fun s => decide (¬ uRS D s p = uRS D 0 p)) (uN D).toNat) (uPl D).toNat
def uPr (D : qDt) : Nat := qBm (fun k => qEx (fun s => decide (1 ≤ s ∧ (uT D).1 s = (k : Int))) (uN D).toNat) 24
def uDa (D : qDt) (w : Int) : Int := if w = 0 then uN D else if w = 1 then uE D else if w = 2 then qS (fun s => (uT D).2.1 s) (uN D).toNat else if w = 3 then uVp D else if w = 4 then qS (fun s => qPc (uMk D s) 24) (uN D).toNat else uN D - qPc (uPr D) 24
/-- the number of steps -/
def qLf (P : Nat → Bool) : Nat → Nat → Nat
  | 0, k => k
  | n + 1, k => if P k = true then k else qLf P n (k + 1)
def uK (D : qDt) (x y : Int) : Nat := qLf (fun k => decide ((qPs (D.1 x) (D.1 y) (D.2.1 x) (D.2.1 y) D.2.2.1 k).1 = D.2.1 x ∧ (qPs (D.1 x) (D.1 y) (D.2.1 x) (D.2.1 y) D.2.2.1 k).2 = D.2.1 y)) 48 0
/-- what collate tells of two copies -/
def uTa (D : qDt) (x y w : Int) : Int := if uIn D x y then (if w = 0 then zVl (D.1 x) (D.1 y) (D.2.1 x) (D.2.1 y) D.2.2.1 0 0 else if w = 1 then (uK D x y : Int) else qCt (D.1 x) (D.1 y) (D.2.1 x) (D.2.1 y) D.2.2.1 w (uK D x y)) else -1
/-- what a copy tells -/
def uCp (D : qDt) (c w : Int) : Int := if w = 0 then D.2.1 c else if ¬ uIn D 0 c then -1 else if w = 1 then uSo D c else if w = 2 then uTa D 0 c 0 else if w = 3 then uTa D 0 c 6 else uDf D 0 c
theorem qLf_at {P : Nat → Bool} {K : Nat} (h1 : P K = true) : ∀ (n k : Nat), k ≤ K → K ≤ k + n → (∀ t, t < K → P t = false) → qLf P n k = K := by
  intro n
  induction n with
  | zero => intro k a b _; simp only [qLf]; omega
  | succ n ih =>
    intro k a b h
    simp only [qLf]
    by_cases e : k = K
    · rw [e, if_pos h1]
    · rw [if_neg (by rw [h k (by omega)]; decide)]
      exact ih (k + 1) (by omega) (by omega) h
theorem uK_at {D : qDt} {x y : Int} {K : Nat} (h : qEn (D.1 x) (D.1 y) (D.2.1 x) (D.2.1 y) D.2.2.1 K) (hK : K ≤ 48) : uK D x y = K := by
  unfold uK
  exact qLf_at (by exact decide_eq_true h.1) 48 0 (by omega) (by omega) (fun t ht => decide_eq_false (h.2 t ht))
/-- behind the last step nothing is read -/
theorem qPs_end {f g : Int → Int} {n1 n2 b : Int} {K : Nat} (h : (qPs f g n1 n2 b K).1 = n1) : ∀ m : Nat, (qPs f g n1 n2 b (K + m)).1 = n1 ∧ qSt f g n1 n2 b (K + m) = 2 := by
  intro m
  have hs : ∀ k, (qPs f g n1 n2 b k).1 = n1 → qSt f g n1 n2 b k = 2 := by
    intro k hk
    unfold qSt qDc
    rw [hk, if_neg (by omega), if_neg (by omega)]
  induction m with
  | zero => exact ⟨h, hs K h⟩
  | succ m ih =>
    have h2 := (qPs_st f g n1 n2 b (K + m)).1
    rw [if_pos ih.2, ih.1, Int.add_zero] at h2
    exact ⟨h2, hs _ h2⟩
theorem qRf_end {f g : Int → Int} {n1 n2 b : Int} {K : Nat} (h : (qPs f g n1 n2 b K).1 = n1) (p : Int) : ∀ m : Nat, qRf f g n1 n2 b (K + m) p = qRf f g n1 n2 b K p := by
  intro m
  induction m with
  | zero => rfl
  | succ m ih =>
    rw [show K + (m + 1) = (K + m) + 1 by omega]
    simp only [qRf]
    rw [if_neg (fun z => z.1 (qPs_end h m).2), ih]
theorem qRf_48 {f g : Int → Int} {n1 n2 b : Int} {K : Nat} (h : qEn f g n1 n2 b K) (hK : K ≤ 48) (p : Int) : qRf f g n1 n2 b 48 p = qRf f g n1 n2 b K p := by
  rw [show 48 = K + (48 - K) by omega]; exact qRf_end h.1.1 p _
theorem qFd_congr {c c' : Int → Int} : ∀ (n : Nat) (s : Int), (∀ k : Int, s ≤ k → k < s + n → c k = c' k) → qFd c n s = qFd c' n s := by
  intro n
  induction n with
  | zero => intro s _; rfl
  | succ n ih =>
    intro s h
    simp only [qFd]
    rw [h s (by omega) (by omega), ih (s + 1) (fun k k1 k2 => h k (by omega) (by omega))]
/-- what holds behind k copies -/
theorem uG_b (D : qDt) (hb : 0 ≤ D.2.2.1) : ∀ k : Nat, (0 ≤ (uG D k).1 ∧ (uG D k).1 ≤ k) ∧ (0 ≤ (uG D k).2.1 ∧ (uG D k).2.1 ≤ k) ∧ (0 < k → 0 < (uG D k).1 ∧ (uG D k).2.2.1 0 = 0) ∧
    (∀ s : Int, 0 ≤ s → s < (uG D k).1 → (0 ≤ (uG D k).2.2.1 s ∧ (uG D k).2.2.1 s < k) ∧ uIn D 0 ((uG D k).2.2.1 s) ∧ (0 ≤ (uG D k).2.2.2.1 s ∧ (uG D k).2.2.2.1 s ≤ k)) ∧
    (∀ c : Int, 0 ≤ c → c < k → (uIn D 0 c → 0 ≤ (uG D k).2.2.2.2 c ∧ (uG D k).2.2.2.2 c < (uG D k).1) ∧ (¬ uIn D 0 c → (uG D k).2.2.2.2 c = -1)) := by
  intro k
  induction k with
  | zero => exact ⟨⟨Int.le_refl _, Int.le_refl _⟩, ⟨Int.le_refl _, Int.le_refl _⟩, fun h => absurd h (by omega), fun s s0 s1 => absurd (show s < 0 from s1) (by omega), fun c c0 c1 => absurd c1 (by omega)⟩
  | succ k ih =>
    obtain ⟨h1, h2, h3, h4, h5⟩ := ih
    have hu : uG D (k + 1) = uGs D (uG D k) (k : Int) := rfl
    have hf := qFd_b (fun s => uDf D ((uG D k).2.2.1 s) k) (uG D k).1.toNat 0
    have hfe : qFd (fun s => uDf D ((uG D k).2.2.1 s) k) (uG D k).1.toNat 0 = uFs D (uG D k) k := rfl
    rw [hfe] at hf
    rw [hu]
    unfold uGs
    by_cases hin : uIn D 0 (k : Int)
    · rw [if_pos hin]
      by_cases c2 : uFs D (uG D k) k < (uG D k).1
      · rw [if_pos c2]
        simp only [qPut]
        refine ⟨by omega, by omega, fun _ => ?_, fun s s0 s1 => ?_, fun c c0 c1 => ?_⟩
        · by_cases k0 : 0 < k
          · exact h3 k0
          · exact absurd c2 (by omega)
        · obtain ⟨a1, a2, a3⟩ := h4 s s0 s1
          refine ⟨by omega, a2, ?_⟩
          split
          · rename_i e; rw [← e]; omega
          · omega
        · by_cases e : c = k
          · rw [if_pos e]
            exact ⟨fun _ => by omega, fun z => absurd hin (by rw [e] at z; exact z)⟩
          · rw [if_neg e]; exact h5 c c0 (by omega)
      · rw [if_neg c2]
        simp only [qPut]
        refine ⟨by omega, by omega, fun _ => ⟨by omega, ?_⟩, fun s s0 s1 => ?_, fun c c0 c1 => ?_⟩
        · by_cases k0 : 0 < k
          · rw [if_neg (by have := (h3 k0).1; omega)]; exact (h3 k0).2
          · rw [if_pos (by omega)]; omega
        · by_cases e : s = (uG D k).1
          · rw [if_pos e, if_pos e]
            exact ⟨by omega, hin, by omega⟩
          · rw [if_neg e, if_neg e]
            obtain ⟨a1, a2, a3⟩ := h4 s s0 (by omega)
            exact ⟨by omega, a2, by omega⟩
        · by_cases e : c = k
          · rw [if_pos e]
            exact ⟨fun _ => by omega, fun z => absurd hin (by rw [e] at z; exact z)⟩
          · rw [if_neg e]
            obtain ⟨a1, a2⟩ := h5 c c0 (by omega)
            exact ⟨fun z => by have := a1 z; omega, a2⟩
    · rw [if_neg hin]
      simp only [qPut]
      refine ⟨by omega, by omega, fun _ => ?_, fun s s0 s1 => ?_, fun c c0 c2 => ?_⟩
      · by_cases k0 : 0 < k
        · exact h3 k0
        · exact absurd (show uIn D 0 (k : Int) by
            rw [show (k : Int) = 0 by omega]; omega) hin
      · obtain ⟨a1, a2, a3⟩ := h4 s s0 s1
        exact ⟨by omega, a2, by omega⟩
      · by_cases e : c = k
        · rw [if_pos e]
          exact ⟨fun z => absurd (by rw [e] at z; exact z) hin, fun _ => rfl⟩
        · rw [if_neg e]; exact h5 c c0 (by omega)
