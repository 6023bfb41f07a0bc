/-! places of arrays that are written out -/
section ZWC
variable {L d pc : Nat} {m : zD} {ls st : List zV} {M : zM} {Q : Option zV → zM → Prop}
theorem wp_ialdc (k : Nat) {a n : Nat} {i : Int} (hd : decode m.2.2.1 pc = .ok (.iaload, 1)) (hk : zkd L a = some (20, n)) (hi : i = (k : Int)) (h1 : decide (k < n) = true) (h : wp L d m (pc + 1) ls (iV (M a k) :: st) M Q) : wp L d m pc ls (iV i :: rV a :: st) M Q := by
  subst hi
  exact wp_iald hd hk (by omega) (by have := of_decide_eq_true h1; omega) h
theorem wp_iastc (k : Nat) {a n : Nat} {i x : Int} (hd : decode m.2.2.1 pc = .ok (.iastore, 1)) (hk : zkd L a = some (20, n)) (h4 : 4 ≤ a) (hi : i = (k : Int)) (h1 : decide (k < n) = true) (h : wp L d m (pc + 1) ls st (zU M a k x) Q) : wp L d m pc ls (iV x :: iV i :: rV a :: st) M Q := by
  subst hi
  exact wp_iast hd hk h4 (by omega) (by have := of_decide_eq_true h1; omega) h
/-- a switch over n places from lo on -/
theorem zsw1 (lo a : Int) : (a < lo ∨ lo < a) ∨ a = lo := by omega
theorem zsw2 (lo a : Int) : (a < lo ∨ lo + 1 < a) ∨ a = lo ∨ a = lo + 1 := by omega
theorem zsw3 (lo a : Int) : (a < lo ∨ lo + 2 < a) ∨ a = lo ∨ a = lo + 1 ∨ a = lo + 2 := by omega
theorem zsw4 (lo a : Int) : (a < lo ∨ lo + 3 < a) ∨ a = lo ∨ a = lo + 1 ∨ a = lo + 2 ∨ a = lo + 3 := by omega
theorem zsw5 (lo a : Int) : (a < lo ∨ lo + 4 < a) ∨ a = lo ∨ a = lo + 1 ∨ a = lo + 2 ∨ a = lo + 3 ∨ a = lo + 4 := by omega
theorem zsw6 (lo a : Int) : (a < lo ∨ lo + 5 < a) ∨ a = lo ∨ a = lo + 1 ∨ a = lo + 2 ∨ a = lo + 3 ∨ a = lo + 4 ∨ a = lo + 5 := by omega
end ZWC
