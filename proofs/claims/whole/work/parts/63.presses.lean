/-! presses: plain functions -/
def vFit (C : Nat → Nat) (a : Int → Int) (f : Nat) (p : Int) : Bool := !qEx (fun o => decide (a o = p) && !(C f).testBit o.toNat) f
def vTry (g : Int → Option (Int → Int)) : Nat → Int → Option (Int → Int)
  | 0, _ => none
  | m + 1, p => match g p with
    | some r => some r
    | none => vTry g m (p + 1)
/-- the formes from f on, n of them, on k presses; a: what stands before f -/
def vAs (T C : Nat → Nat) (k : Nat) : Nat → Nat → (Int → Int) → Option (Int → Int)
  | 0, _, a => some a
  | n + 1, f, a => if T f = 0 then vAs T C k n (f + 1) (qPut a (f : Int) (-1)) else vTry (fun p => if vFit C a f p = true then vAs T C k n (f + 1) (qPut a (f : Int) p) else none) k 0
def vPs (Y : qYt) (k : Nat) : Option (Int → Int) := vAs (vT Y) (vC Y) k 6 0 (fun _ => -1)
def vNb (Y : qYt) : Nat → Nat → Nat
  | 0, t => t
  | n + 1, t => if (vPs Y t).isSome = true then t else vNb Y n (t + 1)
def vNum (Y : qYt) : Nat := vNb Y 6 0
def vPo2 (Y : qYt) (f : Int) : Int := ((vPs Y (vNum Y)).getD (fun _ => -1)) f
theorem vTry_none {g : Int → Option (Int → Int)} : ∀ (m : Nat) (p : Int), vTry g m p = none → ∀ q : Int, p ≤ q → q < p + m → g q = none := by
  intro m
  induction m with
  | zero => intro p _ q h1 h2; exact absurd h2 (by omega)
  | succ m ih =>
    intro p h q h1 h2
    simp only [vTry] at h
    cases e : g p with
    | some r => rw [e] at h; exact absurd h (by simp)
    | none =>
      rw [e] at h
      by_cases eq : q = p
      · rw [eq]; exact e
      · exact ih (p + 1) h q (by omega) (by omega)
theorem vTry_some {g : Int → Option (Int → Int)} {r : Int → Int} : ∀ (m : Nat) (p : Int), vTry g m p = some r → ∃ q : Int, (p ≤ q ∧ q < p + m) ∧ g q = some r := by
  intro m
  induction m with
  | zero => intro p h; exact absurd h (by simp [vTry])
  | succ m ih =>
    intro p h
    simp only [vTry] at h
    cases e : g p with
    | some r' => rw [e] at h; exact ⟨p, by omega, by rw [e]; exact h⟩
    | none =>
      rw [e] at h
      obtain ⟨q, h1, h2⟩ := ih (p + 1) h
      exact ⟨q, by omega, h2⟩
/-- what is found leaves the places before f as they are -/
theorem vAs_keep {T C : Nat → Nat} {k : Nat} : ∀ (n f : Nat) (a r : Int → Int), vAs T C k n f a = some r → ∀ g : Int, g < f → r g = a g := by
  intro n
  induction n with
  | zero => intro f a r h g _; simp only [vAs] at h; rw [Option.some.inj h]
  | succ n ih =>
    intro f a r h g hg
    simp only [vAs] at h
    by_cases e : T f = 0
    · rw [if_pos e] at h
      rw [ih (f + 1) _ r h g (by omega), qPut_ne (by omega)]
    · rw [if_neg e] at h
      obtain ⟨q, _, h2⟩ := vTry_some _ _ h
      by_cases ef : vFit C a f q = true
      · rw [if_pos ef] at h2
        rw [ih (f + 1) _ r h2 g (by omega), qPut_ne (by omega)]
      · rw [if_neg ef] at h2; exact absurd h2 (by simp)
theorem qN_one {c c' : Int → Bool} {x : Int} : ∀ {n : Nat}, (∀ k : Int, ¬ k = x → c' k = c k) → qN c' n ≤ qN c n + (if x < n then 1 else 0) := by
  intro n
  induction n with
  | zero => intro _; show (0 : Int) ≤ 0 + _; split <;> omega
  | succ n ih =>
    intro h
    have h1 := ih h
    simp only [qN]
    by_cases e : (n : Int) = x
    · have e1 : (if x < (n : Int) then (1 : Int) else 0) = 0 := if_neg (by omega)
      have e2 : (if x < ((n + 1 : Nat) : Int) then (1 : Int) else 0) = 1 := if_pos (by omega)
      rw [e1] at h1
      rw [e2]
      split <;> split <;> omega
    · rw [h _ e]
      have e3 : (if x < (n : Int) then (1 : Int) else 0) ≤ (if x < ((n + 1 : Nat) : Int) then (1 : Int) else 0) := by split <;> split <;> omega
      omega
theorem vFree (a : Int → Int) : ∀ f : Nat, qN (fun p => qEx (fun o => decide (a o = p)) f) 6 ≤ f := by
  intro f
  induction f with
  | zero => show qN (fun _ => false) 6 ≤ 0; decide
  | succ f ih =>
    have h := qN_one (c := fun p => qEx (fun o => decide (a o = p)) f) (c' := fun p => qEx (fun o => decide (a o = p)) (f + 1)) (x := a (f : Int)) (n := 6) (fun k hk => by
      show (qEx (fun o => decide (a o = k)) f || decide (a (f : Int) = k)) = _
      rw [decide_eq_false (fun z => hk z.symm), Bool.or_false])
    have : (if a (f : Int) < ((6 : Nat) : Int) then (1 : Int) else 0) ≤ 1 := by split <;> omega
    omega
theorem vAs_6 {T C : Nat → Nat} : ∀ (n f : Nat) (a : Int → Int), f + n = 6 → ¬ vAs T C 6 n f a = none := by
  intro n
  induction n with
  | zero => intro f a _ h; simp only [vAs] at h; exact absurd h (by simp)
  | succ n ih =>
    intro f a hf h
    simp only [vAs] at h
    by_cases e : T f = 0
    · rw [if_pos e] at h; exact ih (f + 1) _ (by omega) h
    · rw [if_neg e] at h
      obtain ⟨p, p0, p1, p2⟩ := qN_false (c := fun p => qEx (fun o => decide (a o = p)) f) (n := 6) (by have := vFree a f; omega)
      have hn := vTry_none _ _ h p (by omega) (by omega)
      have hfit : vFit C a f p = true := by
        unfold vFit
        rw [Bool.not_eq_true', Bool.eq_false_iff]
        intro z
        rw [qEx_iff] at z
        obtain ⟨o, o0, o1, hz⟩ := z
        rw [Bool.and_eq_true] at hz
        have := (qEx_iff (fun o => decide (a o = p)) f).2 ⟨o, o0, o1, hz.1⟩
        rw [p2] at this
        exact absurd this (by decide)
      rw [if_pos hfit] at hn
      exact ih (f + 1) _ (by omega) hn
theorem vPs_6 (Y : qYt) : (vPs Y 6).isSome = true := by
  cases e : vPs Y 6 with
  | some r => rfl
  | none => exact absurd e (vAs_6 6 0 _ rfl)
theorem vNb_ok (Y : qYt) : ∀ (n t : Nat), t + n = 6 → (vPs Y (vNb Y n t)).isSome = true ∧ (t ≤ vNb Y n t ∧ vNb Y n t ≤ 6) ∧ ∀ q, t ≤ q → q < vNb Y n t → (vPs Y q).isSome = false := by
  intro n
  induction n with
  | zero => intro t h; simp only [vNb]; rw [show t = 6 by omega]; exact ⟨vPs_6 Y, by omega, fun q _ _ => by omega⟩
  | succ n ih =>
    intro t h
    simp only [vNb]
    by_cases e : (vPs Y t).isSome = true
    · rw [if_pos e]; exact ⟨e, by omega, fun q _ _ => by omega⟩
    · rw [if_neg e]
      obtain ⟨h1, h2, h3⟩ := ih (t + 1) (by omega)
      refine ⟨h1, by omega, fun q q1 q2 => ?_⟩
      by_cases eq : q = t
      · rw [eq]; exact Bool.eq_false_iff.2 e
      · exact h3 q (by omega) q2
theorem vNum_ok (Y : qYt) : (vPs Y (vNum Y)).isSome = true ∧ vNum Y ≤ 6 ∧ ∀ q, q < vNum Y → (vPs Y q).isSome = false := by
  obtain ⟨h1, h2, h3⟩ := vNb_ok Y 6 0 rfl
  exact ⟨h1, h2.2, fun q hq => h3 q (Nat.zero_le _) hq⟩
theorem vNum_at (Y : qYt) {t : Nat} (h : (vPs Y t).isSome = true) (ht : ∀ q, q < t → (vPs Y q).isSome = false) : vNum Y = t := by
  obtain ⟨h1, h2, h3⟩ := vNum_ok Y
  rcases Nat.lt_trichotomy (vNum Y) t with e | e | e
  · rw [ht _ e] at h1; exact absurd h1 (by decide)
  · exact e
  · rw [h3 _ e] at h; exact absurd h (by decide)
