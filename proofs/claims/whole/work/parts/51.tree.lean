/-! the tree: what holds behind each turn -/
theorem qN_false {c : Int → Bool} : ∀ {n : Nat}, qN c n < n → ∃ k : Int, 0 ≤ k ∧ k < n ∧ c k = false := by
  intro n
  induction n with
  | zero => intro h; exact absurd h (by simp [qN])
  | succ n ih =>
    intro h
    cases e : c (n : Int) with
    | false => exact ⟨n, by omega, by omega, e⟩
    | true =>
      simp only [qN] at h
      rw [e, if_pos rfl] at h
      obtain ⟨k, k0, k1, k2⟩ := ih (by omega)
      exact ⟨k, k0, by omega, k2⟩
theorem qN_full {c : Int → Bool} {n : Nat} (h : qN c n = n) : ∀ k : Int, 0 ≤ k → k < n → c k = true := by
  induction n with
  | zero => intro k k0 k1; exact absurd k1 (by omega)
  | succ n ih =>
    intro k k0 k1
    have hb := qN_b c n
    simp only [qN] at h
    by_cases e : c (n : Int) = true
    · rw [if_pos e] at h
      by_cases ek : k = n
      · rw [ek]; exact e
      · exact ih (by omega) k k0 (by omega)
    · rw [if_neg e] at h
      exact absurd h (by omega)
theorem qN_more {c c' : Int → Bool} {x : Int} {n : Nat} (x0 : 0 ≤ x) (h1 : c x = false) (h2 : c' x = true) (h : ∀ k : Int, ¬ k = x → c' k = c k) : qN c' n = qN c n + (if x < n then 1 else 0) := by
  induction n with
  | zero => rw [if_neg (by omega)]; rfl
  | succ n ih =>
    simp only [qN]
    rw [ih]
    by_cases e : (n : Int) = x
    · have e1 : (if x < (n : Int) then (1 : Int) else 0) = 0 := if_neg (by omega)
      have e2 : (if x < ((n + 1 : Nat) : Int) then (1 : Int) else 0) = 1 := if_pos (by omega)
      have e3 : (if c' (n : Int) = true then (1 : Int) else 0) = 1 := if_pos (by rw [e]; exact h2)
      have e4 : (if c (n : Int) = true then (1 : Int) else 0) = 0 := if_neg (by rw [e, h1]; decide)
      rw [e1, e2, e3, e4]
    · rw [h _ e]
      by_cases e2 : x < (n : Int)
      · have e1 : (if x < (n : Int) then (1 : Int) else 0) = 1 := if_pos (by omega)
        have e3 : (if x < ((n + 1 : Nat) : Int) then (1 : Int) else 0) = 1 := if_pos (by omega)
        rw [e1, e3]; omega
      · have e1 : (if x < (n : Int) then (1 : Int) else 0) = 0 := if_neg (by omega)
        have e3 : (if x < ((n + 1 : Nat) : Int) then (1 : Int) else 0) = 0 := if_neg (by omega)
        rw [e1, e3]; omega
theorem qPut_eq {f : Int → Int} {x v : Int} : qPut f x v x = v := if_pos rfl
theorem qPut_ne {f : Int → Int} {x v y : Int} (h : ¬ y = x) : qPut f x v y = f y := if_neg h
section ZTr
variable {jo : Int → Int} {D : Int → Int → Int} {n : Nat} {i i' : Int}
/-- a pair that may be taken -/
def qCa (jo : Int → Int) (D : Int → Int → Int) (n : Nat) (s : Int × Int × Int) : Prop := (0 ≤ s.2.1 ∧ s.2.1 < (n : Int)) ∧ (0 ≤ s.2.2 ∧ s.2.2 < (n : Int)) ∧ ¬ jo s.2.1 = -1 ∧ jo s.2.2 = -1 ∧ s.1 = D s.2.1 s.2.2
theorem qSv_ca {u : Int} (hu : 0 ≤ u ∧ u < (n : Int)) : ∀ (k : Nat) (s : Int × Int × Int), k ≤ n → (s = (i, -1, -1) ∨ qCa jo D n s) → (qSv jo D u k s = (i, -1, -1) ∨ qCa jo D n (qSv jo D u k s)) ∧ (qSv jo D u k s).1 ≤ s.1 ∧ ∀ v : Int, 0 ≤ v → v < k → ¬ jo u = -1 → jo v = -1 → (qSv jo D u k s).1 ≤ D u v := by
  intro k
  induction k with
  | zero => intro s _ h; exact ⟨h, Int.le_refl _, fun v v0 v1 => absurd v1 (by omega)⟩
  | succ k ih =>
    intro s hk h
    obtain ⟨h1, h2, h3⟩ := ih s (by omega) h
    simp only [qSv]
    split
    · rename_i c
      refine ⟨Or.inr ⟨hu, ⟨by simp only; omega, by simp only; omega⟩, c.1, c.2.1, rfl⟩, by simp only; omega, fun v v0 v1 a b => ?_⟩
      simp only
      by_cases e : v = k
      · rw [e]; exact Int.le_refl _
      · have := h3 v v0 (by omega) a b; omega
    · rename_i c
      refine ⟨h1, h2, fun v v0 v1 a b => ?_⟩
      by_cases e : v = k
      · rw [e] at b ⊢
        exact Int.not_lt.mp (fun z => c ⟨a, b, z⟩)
      · exact h3 v v0 (by omega) a b
theorem qSu_ca : ∀ (k : Nat) (s : Int × Int × Int), k ≤ n → (s = (i, -1, -1) ∨ qCa jo D n s) → (qSu jo D n k s = (i, -1, -1) ∨ qCa jo D n (qSu jo D n k s)) ∧ (qSu jo D n k s).1 ≤ s.1 ∧ ∀ u v : Int, 0 ≤ u → u < k → 0 ≤ v → v < n → ¬ jo u = -1 → jo v = -1 → (qSu jo D n k s).1 ≤ D u v := by
  intro k
  induction k with
  | zero => intro s _ h; exact ⟨h, Int.le_refl _, fun u v u0 u1 => absurd u1 (by omega)⟩
  | succ k ih =>
    intro s hk h
    obtain ⟨h1, h2, h3⟩ := ih s (by omega) h
    simp only [qSu]
    obtain ⟨g1, g2, g3⟩ := qSv_ca (jo := jo) (D := D) (n := n) (i := i) (u := (k : Int)) ⟨by omega, by omega⟩ n _ (Nat.le_refl _) h1
    refine ⟨g1, by omega, fun u v u0 u1 v0 v1 a b => ?_⟩
    by_cases e : u = k
    · rw [e] at a ⊢; exact g3 v v0 v1 a b
    · have := h3 u v u0 (by omega) v0 v1 a b; omega
theorem qSu_to (hi : ∀ u v : Int, 0 ≤ u → u < n → 0 ≤ v → v < n → D u v < i) {u v : Int} (u0 : 0 ≤ u) (u1 : u < n) (v0 : 0 ≤ v) (v1 : v < n) (hu : ¬ jo u = -1) (hv : jo v = -1) : qCa jo D n (qSu jo D n n (i, -1, -1)) := by
  obtain ⟨h1, _, h3⟩ := qSu_ca (jo := jo) (D := D) (n := n) (i := i) n (i, -1, -1) (Nat.le_refl _) (Or.inl rfl)
  rcases h1 with h | h
  · have := h3 u v u0 u1 v0 v1 hu hv
    rw [h] at this
    exact absurd (hi u v u0 u1 v0 v1) (by simp only at this; omega)
  · exact h
/-- the start does not matter -/
theorem qSv_in {u : Int} (hu : 0 ≤ u ∧ u < (n : Int)) (hi : ∀ u v : Int, 0 ≤ u → u < n → 0 ≤ v → v < n → D u v < i ∧ D u v < i') : ∀ (k : Nat) (s s' : Int × Int × Int), k ≤ n → (s = s' ∨ s = (i, -1, -1) ∧ s' = (i', -1, -1)) → (qSv jo D u k s = qSv jo D u k s' ∨ qSv jo D u k s = (i, -1, -1) ∧ qSv jo D u k s' = (i', -1, -1)) := by
  intro k
  induction k with
  | zero => intro s s' _ h; exact h
  | succ k ih =>
    intro s s' hk h
    have h1 := ih s s' (by omega) h
    simp only [qSv]
    rcases h1 with h1 | h1
    · rw [h1]; exact Or.inl rfl
    · rw [h1.1, h1.2]
      have := hi u k hu.1 hu.2 (by omega) (by omega)
      by_cases e : ¬ jo u = -1 ∧ jo (k : Int) = -1
      · rw [if_pos ⟨e.1, e.2, this.1⟩, if_pos ⟨e.1, e.2, this.2⟩]; exact Or.inl rfl
      · rw [if_neg (fun z => e ⟨z.1, z.2.1⟩), if_neg (fun z => e ⟨z.1, z.2.1⟩)]; exact Or.inr ⟨rfl, rfl⟩
theorem qSu_in (hi : ∀ u v : Int, 0 ≤ u → u < n → 0 ≤ v → v < n → D u v < i ∧ D u v < i') : ∀ (k : Nat) (s s' : Int × Int × Int), k ≤ n → (s = s' ∨ s = (i, -1, -1) ∧ s' = (i', -1, -1)) → (qSu jo D n k s = qSu jo D n k s' ∨ qSu jo D n k s = (i, -1, -1) ∧ qSu jo D n k s' = (i', -1, -1)) := by
  intro k
  induction k with
  | zero => intro s s' _ h; exact h
  | succ k ih =>
    intro s s' hk h
    simp only [qSu]
    exact qSv_in ⟨by omega, by omega⟩ hi n _ _ (Nat.le_refl _) (ih s s' (by omega) h)
theorem qTr_in (hi : ∀ u v : Int, 0 ≤ u → u < n → 0 ≤ v → v < n → D u v < i ∧ D u v < i') : ∀ k : Nat, qTr D n i k = qTr D n i' k := by
  intro k
  induction k with
  | zero => rfl
  | succ k ih =>
    simp only [qTr]
    rw [ih]
    rcases qSu_in (jo := (qTr D n i' k).2.2) hi n (i, -1, -1) (i', -1, -1) (Nat.le_refl _) (Or.inr ⟨rfl, rfl⟩) with h | h
    · rw [h]
    · rw [h.1, h.2]; rfl
/-- what holds of the tree behind k turns -/
def qTi (D : Int → Int → Int) (n k : Nat) (w : (Int → Int) × (Int → Int) × (Int → Int)) : Prop := w.2.2 0 = 0 ∧ (∀ s : Int, 0 ≤ s → s < n → (w.2.2 s = -1 ∨ 0 ≤ w.2.2 s ∧ w.2.2 s ≤ k) ∧ (w.2.2 s = 0 → s = 0) ∧ (w.2.2 s ≤ 0 → w.1 s = -1 ∧ w.2.1 s = 0) ∧ (0 < w.2.2 s → (0 ≤ w.1 s ∧ w.1 s < n) ∧ 0 ≤ w.2.2 (w.1 s) ∧ w.2.2 (w.1 s) < w.2.2 s ∧ w.2.1 s = D (w.1 s) s)) ∧ qN (fun s => decide (¬ w.2.2 s = -1)) n = (k : Int) + 1
theorem qTr_ti (hn : 0 < n) (hi : ∀ u v : Int, 0 ≤ u → u < n → 0 ≤ v → v < n → D u v < i) : ∀ k : Nat, k < n → qTi D n k (qTr D n i k) := by
  intro k
  induction k with
  | zero =>
    intro _
    refine ⟨rfl, fun s s0 s1 => ?_, ?_⟩
    · show ((if s = 0 then (0 : Int) else -1) = -1 ∨ 0 ≤ (if s = 0 then (0 : Int) else -1) ∧ (if s = 0 then (0 : Int) else -1) ≤ ((0 : Nat) : Int)) ∧ ((if s = 0 then (0 : Int) else -1) = 0 → s = 0) ∧ ((if s = 0 then (0 : Int) else -1) ≤ 0 → ((-1 : Int) = -1 ∧ (0 : Int) = 0)) ∧ (0 < (if s = 0 then (0 : Int) else -1) → _)
      by_cases e : s = 0
      · rw [if_pos e]; exact ⟨Or.inr ⟨by omega, by omega⟩, fun _ => e, fun _ => ⟨rfl, rfl⟩, fun z => absurd z (by omega)⟩
      · rw [if_neg e]; exact ⟨Or.inl rfl, fun z => absurd z (by omega), fun _ => ⟨rfl, rfl⟩, fun z => absurd z (by omega)⟩
    · have h := qN_more (c := fun _ => false) (c' := fun s => decide (¬ (if s = 0 then (0 : Int) else -1) = -1)) (x := 0) (n := n) (by decide) rfl rfl (fun k hk => by
        show decide (¬ (if k = 0 then (0 : Int) else -1) = -1) = false
        rw [if_neg hk]; rfl)
      have hz : ∀ n : Nat, qN (fun _ => false) n = 0 := by
        intro n
        induction n with
        | zero => rfl
        | succ n ih => simp only [qN]; rw [ih]; rfl
      rw [hz, if_pos (by omega)] at h
      exact h
  | succ k ih =>
    intro hk
    obtain ⟨h1, h2, h3⟩ := ih (by omega)
    obtain ⟨v, v0, v1, v2⟩ := qN_false (c := fun s => decide (¬ (qTr D n i k).2.2 s = -1)) (n := n) (by rw [h3]; omega)
    have v2 : (qTr D n i k).2.2 v = -1 := Decidable.of_not_not (of_decide_eq_false v2)
    have hc := qSu_to (jo := (qTr D n i k).2.2) (D := D) (n := n) (i := i) hi (u := 0) (v := v) (by decide) (by omega) v0 v1 (by rw [h1]; decide) v2
    simp only [qTr]
    generalize qSu (qTr D n i k).2.2 D n n (i, -1, -1) = w at hc ⊢
    obtain ⟨d, fr, to⟩ := w
    obtain ⟨c1, c2, c3, c4, c5⟩ := hc
    dsimp only at c1 c2 c3 c4 c5 ⊢
    rw [if_neg (by omega)]
    unfold qTi
    dsimp only
    have w0 : ¬ (0 : Int) = to := fun z => absurd (show (qTr D n i k).2.2 to = 0 by rw [← z]; exact h1) (by rw [c4]; decide)
    refine ⟨by rw [qPut_ne w0]; exact h1, fun s s0 s1 => ?_, ?_⟩
    · by_cases e : s = to
      · subst e
        have ew : ¬ fr = s := fun z => c3 (by rw [z]; exact c4)
        have hf := (h2 fr c1.1 c1.2).1
        rw [qPut_eq, qPut_eq, qPut_eq, qPut_ne ew]
        exact ⟨Or.inr ⟨by omega, by omega⟩, fun z => absurd z (by omega), fun z => absurd z (by omega), fun _ => ⟨c1, by omega, by omega, c5⟩⟩
      · rw [qPut_ne e, qPut_ne e, qPut_ne e]
        obtain ⟨a1, a2, a3, a4⟩ := h2 s s0 s1
        refine ⟨by omega, a2, a3, fun z => ?_⟩
        obtain ⟨b1, b2, b3, b4⟩ := a4 z
        have ep : ¬ (qTr D n i k).1 s = to := fun z => absurd (show (qTr D n i k).2.2 ((qTr D n i k).1 s) = -1 by rw [z]; exact c4) (by omega)
        rw [qPut_ne ep]
        exact ⟨b1, b2, b3, b4⟩
    · have h := qN_more (c := fun s => decide (¬ (qTr D n i k).2.2 s = -1)) (c' := fun s => decide (¬ qPut (qTr D n i k).2.2 to ((k : Int) + 1) s = -1)) (x := to) (n := n) c2.1 (decide_eq_false (fun z => z c4)) (by
        show decide (¬ qPut _ to _ to = -1) = true
        rw [qPut_eq]; exact decide_eq_true (by omega)) (fun j hj => by
        show decide (¬ qPut _ to _ j = -1) = _
        rw [qPut_ne hj])
      rw [h, h3, if_pos c2.2]
      omega
end ZTr
/-- the tree of all states -/
theorem uDf_b (D : qDt) (h0 : 0 ≤ uPl D) (h : uPl D ≤ 24) (c c' : Int) : 0 ≤ uDf D c c' ∧ uDf D c c' ≤ 24 := by
  unfold uDf
  have := qN_b (fun p => decide (¬ uRd D c p = uRd D c' p)) (uPl D).toNat
  omega
theorem uDf_sym (D : qDt) (c c' : Int) : uDf D c c' = uDf D c' c := by
  unfold uDf
  refine qN_congr (fun p _ _ => ?_)
  rw [Bool.eq_iff_iff, decide_eq_true_iff, decide_eq_true_iff]
  exact ⟨fun z e => z e.symm, fun z e => z e.symm⟩
theorem uDs_b (D : qDt) (h0 : 0 ≤ uPl D) (h : uPl D ≤ 24) (u v : Int) : 0 ≤ uDs D u v ∧ uDs D u v ≤ 24 := by
  unfold uDs
  split
  · exact uDf_b D h0 h _ _
  · decide
theorem uT_i (D : qDt) (h0 : 0 ≤ uPl D) (h : uPl D ≤ 24) (i : Int) (hi : 24 < i) (k : Nat) : qTr (uDs D) (uN D).toNat i k = qTr (uDs D) (uN D).toNat 25 k :=
  qTr_in (fun u v _ _ _ _ => by have := uDs_b D h0 h u v; omega) k
theorem uT_ti (D : qDt) (h0 : 0 ≤ uPl D) (h : uPl D ≤ 24) (hn : 0 < uN D) : qTi (uDs D) (uN D).toNat ((uN D).toNat - 1) (uT D) :=
  qTr_ti (by omega) (fun u v _ _ _ _ => by have := uDs_b D h0 h u v; omega) _ (by omega)
/-- all states are joined; every state but the first has a parent that joined before it -/
theorem uT_all (D : qDt) (h0 : 0 ≤ uPl D) (h : uPl D ≤ 24) : ∀ s : Int, 0 ≤ s → s < uN D → (0 ≤ (uT D).2.2 s ∧ (uT D).2.2 s < uN D) ∧ (s = 0 → (uT D).2.2 s = 0 ∧ (uT D).1 s = -1 ∧ (uT D).2.1 s = 0) ∧ (¬ s = 0 → (0 ≤ (uT D).1 s ∧ (uT D).1 s < uN D) ∧ (uT D).2.2 ((uT D).1 s) < (uT D).2.2 s ∧ (uT D).2.1 s = uDs D ((uT D).1 s) s) := by
  intro s s0 s1
  obtain ⟨t1, t2, t3⟩ := uT_ti D h0 h (by omega)
  have hf := of_decide_eq_true (qN_full (by rw [t3]; omega) s s0 (by omega))
  obtain ⟨a1, a2, a3, a4⟩ := t2 s s0 (by omega)
  refine ⟨by omega, fun e => ?_, fun e => ?_⟩
  · rw [e] at a3 ⊢
    have := a3 (by omega)
    exact ⟨t1, this.1, this.2⟩
  · have hp : 0 < (uT D).2.2 s := by
      rcases a1 with z | z
      · exact absurd z hf
      · by_cases e0 : (uT D).2.2 s = 0
        · exact absurd (a2 e0) e
        · omega
    have := a4 hp
    exact ⟨by omega, this.2.2.1, this.2.2.2⟩
