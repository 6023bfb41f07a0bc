/-! states and their tree: plain numbers -/
/-- the first s from z on, among n, with c s = 0; z + n if there is none -/
def qFd (c : Int → Int) : Nat → Int → Int
  | 0, s => s
  | n + 1, s => if c s = 0 then s else qFd c n (s + 1)
/-- the readings that k steps give -/
def qRf (f g : Int → Int) (n1 n2 b : Int) : Nat → Int → Int
  | 0, _ => 0
  | k + 1, p => if ¬ qSt f g n1 n2 b k = 2 ∧ p = (qPs f g n1 n2 b k).1 then (if qSt f g n1 n2 b k = 0 then g (qPs f g n1 n2 b k).2 else -1) else qRf f g n1 n2 b k p
/-- the pair of states that is taken: (distance, from, to) -/
def qSv (jo : Int → Int) (D : Int → Int → Int) (u : Int) : Nat → Int × Int × Int → Int × Int × Int
  | 0, s => s
  | k + 1, s => if ¬ jo u = -1 ∧ jo (k : Int) = -1 ∧ D u (k : Int) < (qSv jo D u k s).1 then (D u (k : Int), u, (k : Int)) else qSv jo D u k s
def qSu (jo : Int → Int) (D : Int → Int → Int) (n : Nat) : Nat → Int × Int × Int → Int × Int × Int
  | 0, s => s
  | k + 1, s => qSv jo D (k : Int) n (qSu jo D n k s)
def qPut (f : Int → Int) (x v : Int) : Int → Int := fun y => if y = x then v else f y
/-- the tree behind k turns: parents, distances up, the order; i: a number above all distances -/
def qTr (D : Int → Int → Int) (n : Nat) (i : Int) : Nat → (Int → Int) × (Int → Int) × (Int → Int)
  | 0 => (fun _ => -1, fun _ => 0, fun s => if s = 0 then 0 else -1)
  | k + 1 => if (qSu (qTr D n i k).2.2 D n n (i, -1, -1)).2.2 < 0 then qTr D n i k else
      (qPut (qTr D n i k).1 (qSu (qTr D n i k).2.2 D n n (i, -1, -1)).2.2 (qSu (qTr D n i k).2.2 D n n (i, -1, -1)).2.1,
       qPut (qTr D n i k).2.1 (qSu (qTr D n i k).2.2 D n n (i, -1, -1)).2.2 (qSu (qTr D n i k).2.2 D n n (i, -1, -1)).1,
       qPut (qTr D n i k).2.2 (qSu (qTr D n i k).2.2 D n n (i, -1, -1)).2.2 ((k : Int) + 1))
theorem qSv_b {jo : Int → Int} {D : Int → Int → Int} {u : Int} {N : Int} (hu : 0 ≤ u ∧ u < N) : ∀ (k : Nat) (s : Int × Int × Int), (k : Int) ≤ N → -1 ≤ s.2.1 ∧ s.2.1 < N → -1 ≤ s.2.2 ∧ s.2.2 < N → (-1 ≤ (qSv jo D u k s).2.1 ∧ (qSv jo D u k s).2.1 < N) ∧ -1 ≤ (qSv jo D u k s).2.2 ∧ (qSv jo D u k s).2.2 < N := by
  intro k
  induction k with
  | zero => intro s _ h1 h2; exact ⟨h1, h2⟩
  | succ k ih =>
    intro s hk h1 h2
    simp only [qSv]
    split
    · simp only; omega
    · exact ih s (by omega) h1 h2
theorem qSu_b {jo : Int → Int} {D : Int → Int → Int} {n : Nat} : ∀ (k : Nat) (s : Int × Int × Int), k ≤ n → -1 ≤ s.2.1 ∧ s.2.1 < (n : Int) → -1 ≤ s.2.2 ∧ s.2.2 < (n : Int) → (-1 ≤ (qSu jo D n k s).2.1 ∧ (qSu jo D n k s).2.1 < (n : Int)) ∧ -1 ≤ (qSu jo D n k s).2.2 ∧ (qSu jo D n k s).2.2 < (n : Int) := by
  intro k
  induction k with
  | zero => intro s _ h1 h2; exact ⟨h1, h2⟩
  | succ k ih =>
    intro s hk h1 h2
    simp only [qSu]
    have := ih s (by omega) h1 h2
    exact qSv_b ⟨by omega, by omega⟩ n _ (by omega) this.1 this.2
theorem qSv_congr {jo jo' : Int → Int} {D D' : Int → Int → Int} {u : Int} {N : Int} (hu : 0 ≤ u ∧ u < N) (hj : ∀ x, 0 ≤ x → x < N → jo x = jo' x) (hD : ∀ x y, 0 ≤ x → x < N → 0 ≤ y → y < N → D x y = D' x y) : ∀ (k : Nat) (s : Int × Int × Int), (k : Int) ≤ N → qSv jo D u k s = qSv jo' D' u k s := by
  intro k
  induction k with
  | zero => intro s _; rfl
  | succ k ih =>
    intro s hk
    simp only [qSv]
    rw [ih s (by omega), hj u hu.1 hu.2, hj k (by omega) (by omega), hD u k hu.1 hu.2 (by omega) (by omega)]
theorem qSu_congr {jo jo' : Int → Int} {D D' : Int → Int → Int} {n : Nat} (hj : ∀ x, 0 ≤ x → x < (n : Int) → jo x = jo' x) (hD : ∀ x y, 0 ≤ x → x < (n : Int) → 0 ≤ y → y < (n : Int) → D x y = D' x y) : ∀ (k : Nat) (s : Int × Int × Int), k ≤ n → qSu jo D n k s = qSu jo' D' n k s := by
  intro k
  induction k with
  | zero => intro s _; rfl
  | succ k ih =>
    intro s hk
    simp only [qSu]
    rw [ih s (by omega), qSv_congr (N := n) ⟨by omega, by omega⟩ hj hD n _ (by omega)]
theorem qFd_b (c : Int → Int) : ∀ (n : Nat) (s : Int), s ≤ qFd c n s ∧ qFd c n s ≤ s + n := by
  intro n
  induction n with
  | zero => intro s; simp only [qFd]; omega
  | succ n ih =>
    intro s
    simp only [qFd]
    split
    · omega
    · have := ih (s + 1)
      omega
