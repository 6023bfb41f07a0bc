/-! class and model side by side: the state that both stand for -/
abbrev jT := qDt × qYt × qPt × Int × Int
def jC (xs : Nat → Int32) (n : Int) (v : jT) (M : zM) : Prop := (qIC M ∧ qIS M ∧ qPi M) ∧ (qDC M = v.1 ∧ qYC M = v.2.1 ∧ qPg M = v.2.2.1 ∧ M 4 7 = v.2.2.2.1 ∧ M 4 8 = v.2.2.2.2) ∧ (0 ≤ M 7 5 ∧ M 7 5 ≤ n) ∧ (0 ≤ M 147 2 ∧ M 147 2 ≤ n) ∧ ∀ k, M 3 k = (xs k).toInt
def jM (v : jT) (M : zM) : Prop := mH M v.1 ∧ mY M v.2.1 ∧ mG M v.2.2.1 ∧ M 174 6 = v.2.2.2.1 ∧ M 174 12 = v.2.2.2.2
def jP (n : Int) (v : jT) : Prop := mDi v.1 ∧ qYi v.2.1 ∧ (0 ≤ v.2.2.1.1 ∧ v.2.2.1.1 ≤ 24) ∧ (0 ≤ v.2.2.2.1 ∧ v.2.2.2.1 ≤ n) ∧ (0 ≤ v.2.2.2.2 ∧ v.2.2.2.2 ≤ n)
theorem jM.keep {v : jT} {M M' : zM} (h : jM v M) (s : zSm (fun a => 4 ≤ a ∧ a < 174) M M') : jM v M' := by
  obtain ⟨h1, h2, h3, h4, h5⟩ := h
  have e : ∀ a, 174 ≤ a → ∀ k, M' a k = M a k := fun a ha k => s a (by omega) k
  have f : mF (fun a k => a < 174) M M' := fun a k ha => e a (by omega) k
  exact ⟨h1.keep f (by omega) (by omega) (by omega), h2.keep f (by omega) (by omega), h3.keep f (by omega) (by omega), (e 174 (by decide) 6).trans h4, (e 174 (by decide) 12).trans h5⟩
theorem jM.q {v : jT} {M M' : zM} (h : jM v M) (s : mF mPq M M') : jM v M' := by
  obtain ⟨h1, h2, h3, h4, h5⟩ := h
  exact ⟨h1.keep s (by omega) (by omega) (by omega), h2.keep s (by omega) (by omega), h3.keep s (by omega) (by omega), (s 174 6 (by omega)).trans h4, (s 174 12 (by omega)).trans h5⟩
theorem jC.keep {xs : Nat → Int32} {n : Int} {v : jT} {M M' : zM} (h : jC xs n v M) (s : mF (fun a k => 174 ≤ a) M M') : jC xs n v M' := by
  obtain ⟨⟨i1, i2, i3⟩, ⟨e1, e2, e3, e4, e5⟩, b1, b2, hx⟩ := h
  have e : ∀ a, a < 174 → ∀ k, M' a k = M a k := fun a ha k => s a k (by omega)
  have z : zSm (fun a => 174 ≤ a) M M' := fun a ha k => e a (by omega) k
  have c1 := i1.keep z (fun a a1 _ _ _ => by omega)
  have c2 := i2.keep z (fun a a1 a2 => by omega)
  have p1 := e 5 (by decide) 1
  have p2 := e 6 (by decide)
  refine ⟨⟨c1.1, c2.1, i3.keep p1 p2⟩, ⟨c1.2.trans e1, c2.2.trans e2, (qPg_eq p1 p2).trans e3, (e 4 (by decide) 7).trans e4, (e 4 (by decide) 8).trans e5⟩, ?_, ?_, fun k => (e 3 (by decide) k).trans (hx k)⟩
  · rw [e 7 (by decide) 5]; exact b1
  · rw [e 147 (by decide) 2]; exact b2
theorem jC.more {xs : Nat → Int32} {n : Int} {v : jT} {M : zM} (h : jC xs n v M) : jC xs (n + 1) v M := ⟨h.1, h.2.1, ⟨h.2.2.1.1, by have := h.2.2.1.2; omega⟩, ⟨h.2.2.2.1.1, by have := h.2.2.2.1.2; omega⟩, h.2.2.2.2⟩
theorem jP.more {n : Int} {v : jT} (h : jP n v) : jP (n + 1) v := ⟨h.1, h.2.1, h.2.2.1, ⟨h.2.2.2.1.1, by have := h.2.2.2.1.2; omega⟩, ⟨h.2.2.2.2.1, by have := h.2.2.2.2.2; omega⟩⟩
/-- a question to the class: what may be built for it is all that changes -/
theorem jC.q {xs : Nat → Int32} {n : Int} {v : jT} {M M' : zM} (h : jC xs n v M) (s : zSm (fun a => a = 11 ∨ (24 ≤ a ∧ a < 147) ∨ (161 ≤ a ∧ a < 174)) M M') (hc : qIC M') (hs : qIS M') (eD : qDC M' = qDC M) (eY : qYC M' = qYC M) : jC xs (n + 1) v M' := by
  obtain ⟨⟨i1, i2, i3⟩, ⟨e1, e2, e3, e4, e5⟩, b1, b2, hx⟩ := h
  have p1 := s 5 (by omega) 1
  have p2 := s 6 (by omega)
  refine ⟨⟨hc, hs, i3.keep p1 p2⟩, ⟨eD.trans e1, eY.trans e2, (qPg_eq p1 p2).trans e3, (s 4 (by omega) 7).trans e4, (s 4 (by omega) 8).trans e5⟩, ?_, ?_, fun k => (s 3 (by omega) k).trans (hx k)⟩
  · rw [s 7 (by omega) 5]; omega
  · rw [s 147 (by omega) 2]; omega
section ZJ
variable {L : Nat} {xs : Nat → Int32} {n : Int} {v v' v2 : jT} {M M' : zM} {x y z w c p s i j z' : Int}
def rQ (u : Int) (v : jT) (z : Int) (v' : jT) : Prop := z = u ∧ v' = v
def rLt (v : jT) (x z : Int) (v' : jT) : Prop := z = (uLt v.2.2.1 x).1 ∧ v' = (v.1, v.2.1, (uLt v.2.2.1 x).2, v.2.2.2.1, v.2.2.2.2)
def rBl (v : jT) (z : Int) (v' : jT) : Prop := z = v.2.2.1.1 ∧ v' = (v.1, v.2.1, uEm, v.2.2.2.1, v.2.2.2.2)
def rCp (v : jT) (z : Int) (v' : jT) : Prop := ¬ uWd v.2.2.1 ∧ z = -103 ∧ v' = v ∨ uWd v.2.2.1 ∧ ¬ v.1.2.2.2 < 6 ∧ z = -104 ∧ v' = v ∨ uWd v.2.2.1 ∧ v.1.2.2.2 < 6 ∧ z = v.1.2.2.2 ∧ v' = (uPt v.1 v.1.2.2.2 v.2.2.1, v.2.1, uEm, v.2.2.2.1 + 1, v.2.2.2.2)
def rCr (v : jT) (c z : Int) (v' : jT) : Prop := ¬ (0 ≤ c ∧ c < v.1.2.2.2) ∧ z = -101 ∧ v' = v ∨ (0 ≤ c ∧ c < v.1.2.2.2) ∧ ¬ uWd v.2.2.1 ∧ z = -103 ∧ v' = v ∨ (0 ≤ c ∧ c < v.1.2.2.2) ∧ uWd v.2.2.1 ∧ z = v.1.2.1 c ∧ v' = (uPt v.1 c v.2.2.1, v.2.1, uEm, v.2.2.2.1 + 1, v.2.2.2.2)
def rDr (v : jT) (z : Int) (v' : jT) : Prop := v.1.2.2.2 = 0 ∧ z = -103 ∧ v' = v ∨ 0 < v.1.2.2.2 ∧ z = v.1.2.2.2 - 1 ∧ v' = (uDr v.1, v.2.1, v.2.2.1, v.2.2.2.1, v.2.2.2.2)
def rBd (v : jT) (x z : Int) (v' : jT) : Prop := ¬ (0 ≤ x ∧ x ≤ 9) ∧ z = -102 ∧ v' = v ∨ (0 ≤ x ∧ x ≤ 9) ∧ z = v.1.2.2.1 ∧ v' = (uBd v.1 x, v.2.1, v.2.2.1, v.2.2.2.1, v.2.2.2.2)
def rGo (x y z w : Int) : Prop := (0 ≤ x ∧ x < 6) ∧ (0 ≤ y ∧ y < 6) ∧ (0 ≤ z ∧ z ≤ 9) ∧ 1 ≤ w ∧ w ≤ 9
def rSe (v : jT) (x y z w u : Int) (v' : jT) : Prop := (v' = v ∧ (¬ rGo x y z w ∧ u = -102 ∨ rGo x y z w ∧ (uCl v.2.1 x y z = true ∧ u = -103 ∨ uCl v.2.1 x y z = false ∧ ¬ v.2.1.1 < 12 ∧ u = -104))) ∨ (rGo x y z w ∧ uCl v.2.1 x y z = false ∧ v.2.1.1 < 12 ∧ u = v.2.1.1 ∧ v' = (v.1, uAdd v.2.1 x y z w, v.2.2.1, v.2.2.2.1, v.2.2.2.2))
def rUn (v : jT) (x u : Int) (v' : jT) : Prop := (v' = v ∧ ¬ (0 ≤ x ∧ x < v.2.1.1) ∧ u = -101) ∨ ((0 ≤ x ∧ x < v.2.1.1) ∧ u = v.2.1.1 - 1 ∧ v' = (v.1, uRm v.2.1 x, v.2.2.1, v.2.2.2.1, v.2.2.2.2 + 1))
theorem dQ {u : Int} (h : rQ u v z v') (h2 : rQ u v z' v2) : z = z' ∧ v' = v2 := ⟨h.1.trans h2.1.symm, h.2.trans h2.2.symm⟩
theorem dLt (h : rLt v x z v') (h2 : rLt v x z' v2) : z = z' ∧ v' = v2 := ⟨h.1.trans h2.1.symm, h.2.trans h2.2.symm⟩
theorem dBl (h : rBl v z v') (h2 : rBl v z' v2) : z = z' ∧ v' = v2 := ⟨h.1.trans h2.1.symm, h.2.trans h2.2.symm⟩
theorem dCpy (h : rCp v z v') (h2 : rCp v z' v2) : z = z' ∧ v' = v2 := by
  rcases h with ⟨a1, a2, a3⟩ | ⟨a1, a4, a2, a3⟩ | ⟨a1, a4, a2, a3⟩ <;> rcases h2 with ⟨b1, b2, b3⟩ | ⟨b1, b4, b2, b3⟩ | ⟨b1, b4, b2, b3⟩ <;>
  first
  | exact ⟨a2.trans b2.symm, a3.trans b3.symm⟩
  | exact absurd b1 a1
  | exact absurd a1 b1
  | exact absurd b4 a4
  | exact absurd a4 b4
theorem dCr (h : rCr v c z v') (h2 : rCr v c z' v2) : z = z' ∧ v' = v2 := by
  rcases h with ⟨a1, a2, a3⟩ | ⟨a1, a4, a2, a3⟩ | ⟨a1, a4, a2, a3⟩ <;> rcases h2 with ⟨b1, b2, b3⟩ | ⟨b1, b4, b2, b3⟩ | ⟨b1, b4, b2, b3⟩ <;>
  first
  | exact ⟨a2.trans b2.symm, a3.trans b3.symm⟩
  | exact absurd b1 a1
  | exact absurd a1 b1
  | exact absurd b4 a4
  | exact absurd a4 b4
theorem dDr (h : rDr v z v') (h2 : rDr v z' v2) : z = z' ∧ v' = v2 := by
  rcases h with ⟨a1, a2, a3⟩ | ⟨a1, a2, a3⟩ <;> rcases h2 with ⟨b1, b2, b3⟩ | ⟨b1, b2, b3⟩ <;>
  first
  | exact ⟨a2.trans b2.symm, a3.trans b3.symm⟩
  | (exfalso; omega)
theorem dBd (h : rBd v x z v') (h2 : rBd v x z' v2) : z = z' ∧ v' = v2 := by
  rcases h with ⟨a1, a2, a3⟩ | ⟨a1, a2, a3⟩ <;> rcases h2 with ⟨b1, b2, b3⟩ | ⟨b1, b2, b3⟩ <;>
  first
  | exact ⟨a2.trans b2.symm, a3.trans b3.symm⟩
  | exact absurd b1 a1
  | exact absurd a1 b1
theorem dSe {u u' : Int} (h : rSe v x y z w u v') (h2 : rSe v x y z w u' v2) : u = u' ∧ v' = v2 := by
  rcases h with ⟨a1, ⟨a2, a3⟩ | ⟨a2, ⟨a3, a4⟩ | ⟨a3, a4, a5⟩⟩⟩ | ⟨a2, a3, a4, a5, a1⟩ <;> rcases h2 with ⟨b1, ⟨b2, b3⟩ | ⟨b2, ⟨b3, b4⟩ | ⟨b3, b4, b5⟩⟩⟩ | ⟨b2, b3, b4, b5, b1⟩ <;>
  first
  | exact ⟨a3.trans b3.symm, a1.trans b1.symm⟩
  | exact absurd b2 a2
  | exact absurd a2 b2
  | exact ⟨a4.trans b4.symm, a1.trans b1.symm⟩
  | exact absurd (a3.symm.trans b3) (by decide)
  | exact ⟨a5.trans b5.symm, a1.trans b1.symm⟩
  | exact absurd a4 b4
  | exact absurd b4 a4
theorem dUn {u u' : Int} (h : rUn v x u v') (h2 : rUn v x u' v2) : u = u' ∧ v' = v2 := by
  rcases h with ⟨a1, a2, a3⟩ | ⟨a2, a3, a1⟩ <;> rcases h2 with ⟨b1, b2, b3⟩ | ⟨b2, b3, b1⟩ <;>
  first
  | exact ⟨a3.trans b3.symm, a1.trans b1.symm⟩
  | exact absurd b2 a2
  | exact absurd a2 b2
/-- what is true of every state stays true -/
theorem pQ {u : Int} (P : jP n v) (h : rQ u v z v') : jP (n + 1) v' := by rw [h.2]; exact P.more
theorem pLt (P : jP n v) (h : rLt v x z v') : jP (n + 1) v' := by
  rw [h.2]
  obtain ⟨p1, p2, p3, p4, p5⟩ := P.more
  refine ⟨p1, p2, ?_, p4, p5⟩
  show 0 ≤ (uLt v.2.2.1 x).2.1 ∧ (uLt v.2.2.1 x).2.1 ≤ 24
  unfold uLt
  split
  · split
    · show 0 ≤ v.2.2.1.1 + 1 ∧ v.2.2.1.1 + 1 ≤ 24
      omega
    · exact p3
  · exact p3
theorem pBl (P : jP n v) (h : rBl v z v') : jP (n + 1) v' := by
  rw [h.2]
  obtain ⟨p1, p2, p3, p4, p5⟩ := P.more
  exact ⟨p1, p2, by show 0 ≤ (0 : Int) ∧ (0 : Int) ≤ 24; decide, p4, p5⟩
theorem pPut (P : jP n v) (x0 : 0 ≤ x) (x1 : x < 6) (x2 : x ≤ v.1.2.2.2) (hw : uWd v.2.2.1) : jP (n + 1) (uPt v.1 x v.2.2.1, v.2.1, uEm, v.2.2.2.1 + 1, v.2.2.2.2) := by
  obtain ⟨p1, p2, p3, p4, p5⟩ := P
  refine ⟨mDi_put p1 x0 x1 x2 p3.2 hw, p2, by show 0 ≤ (0 : Int) ∧ (0 : Int) ≤ 24; decide, ?_, ?_⟩
  · show 0 ≤ v.2.2.2.1 + 1 ∧ v.2.2.2.1 + 1 ≤ n + 1
    omega
  · show 0 ≤ v.2.2.2.2 ∧ v.2.2.2.2 ≤ n + 1
    omega
theorem pCp (P : jP n v) (h : rCp v z v') : jP (n + 1) v' := by
  rcases h with ⟨a1, a2, a3⟩ | ⟨a1, a4, a2, a3⟩ | ⟨a1, a4, a2, a3⟩
  · rw [a3]; exact P.more
  · rw [a3]; exact P.more
  · rw [a3]; exact pPut P P.1.1.1 a4 (Int.le_refl _) a1
theorem pCr (P : jP n v) (h : rCr v c z v') : jP (n + 1) v' := by
  rcases h with ⟨a1, a2, a3⟩ | ⟨a1, a4, a2, a3⟩ | ⟨a1, a4, a2, a3⟩
  · rw [a3]; exact P.more
  · rw [a3]; exact P.more
  · rw [a3]; exact pPut P a1.1 (by have := P.1.1; omega) (by omega) a4
theorem pDr (P : jP n v) (h : rDr v z v') : jP (n + 1) v' := by
  rcases h with ⟨a1, a2, a3⟩ | ⟨a1, a2, a3⟩
  · rw [a3]; exact P.more
  · rw [a3]
    obtain ⟨p1, p2, p3, p4, p5⟩ := P.more
    exact ⟨mDi_drop p1 a1, p2, p3, p4, p5⟩
theorem pBd (P : jP n v) (h : rBd v x z v') : jP (n + 1) v' := by
  rcases h with ⟨a1, a2, a3⟩ | ⟨a1, a2, a3⟩
  · rw [a3]; exact P.more
  · rw [a3]
    obtain ⟨p1, p2, p3, p4, p5⟩ := P.more
    exact ⟨mDi_band p1 a1, p2, p3, p4, p5⟩
theorem qYi_add {Y : qYt} (h : qYi Y) (hr : rGo x y z w) (hc : uCl Y x y z = false) (h12 : Y.1 < 12) : qYi (uAdd Y x y z w) := by
  obtain ⟨h1, h2, h3⟩ := h
  have en : (uAdd Y x y z w).1 = Y.1 + 1 := rfl
  have eu : ∀ i k, (uAdd Y x y z w).2 i k = if i = Y.1 then (if k = 0 then x else if k = 1 then y else if k = 2 then z else if k = 3 then w else -1) else Y.2 i k := fun i k => rfl
  have e0 : (uAdd Y x y z w).2 Y.1 0 = x := by rw [eu, if_pos rfl]; rfl
  have e1 : (uAdd Y x y z w).2 Y.1 1 = y := by rw [eu, if_pos rfl]; rfl
  have e2 : (uAdd Y x y z w).2 Y.1 2 = z := by rw [eu, if_pos rfl]; rfl
  have e3 : (uAdd Y x y z w).2 Y.1 3 = w := by rw [eu, if_pos rfl]; rfl
  have ne : ∀ i k, ¬ i = Y.1 → (uAdd Y x y z w).2 i k = Y.2 i k := fun i k hi => by rw [eu, if_neg hi]
  have hcl : ∀ i : Int, 0 ≤ i → i < Y.1 → ¬ (Y.2 i 1 = y ∧ Y.2 i 0 = x) := fun i i0 i1 hz => by
    have : uCl Y x y z = true := (qEx_iff _ _).2 ⟨i, i0, by omega, decide_eq_true ⟨hz.1, Or.inl hz.2⟩⟩
    rw [hc] at this
    exact absurd this (by decide)
  refine ⟨by rw [en]; omega, fun i i0 i1 => ?_, fun i j i0 i1 j0 j1 a1 a2 => ?_⟩
  · rw [en] at i1
    by_cases e : i = Y.1
    · rw [e, e0, e1, e2, e3]; exact hr
    · rw [ne i 0 e, ne i 1 e, ne i 2 e, ne i 3 e]; exact h2 i i0 (by omega)
  · rw [en] at i1 j1
    by_cases e : i = Y.1
    · by_cases e' : j = Y.1
      · rw [e, e']
      · rw [e, e1, ne j 1 e'] at a1
        rw [e, e0, ne j 0 e'] at a2
        exact absurd ⟨a1.symm, a2.symm⟩ (hcl j j0 (by omega))
    · by_cases e' : j = Y.1
      · rw [e', e1, ne i 1 e] at a1
        rw [e', e0, ne i 0 e] at a2
        exact absurd ⟨a1, a2⟩ (hcl i i0 (by omega))
      · rw [ne i 1 e, ne j 1 e'] at a1
        rw [ne i 0 e, ne j 0 e'] at a2
        exact h3 i j i0 (by omega) j0 (by omega) a1 a2
theorem pSe {u : Int} (P : jP n v) (h : rSe v x y z w u v') : jP (n + 1) v' := by
  rcases h with ⟨a1, _⟩ | ⟨a2, a3, a4, a5, a1⟩
  · rw [a1]; exact P.more
  · rw [a1]
    obtain ⟨p1, p2, p3, p4, p5⟩ := P.more
    exact ⟨p1, qYi_add p2 a2 a3 a4, p3, p4, p5⟩
theorem qYi_rm {Y : qYt} (h : qYi Y) (x0 : 0 ≤ x) (x1 : x < Y.1) : qYi (uRm Y x) := by
  obtain ⟨h1, h2, h3⟩ := h
  have en : (uRm Y x).1 = Y.1 - 1 := rfl
  have eu : ∀ i k, 0 ≤ i → i < Y.1 - 1 → (uRm Y x).2 i k = Y.2 (if i < x then i else i + 1) k := fun i k i0 i1 => by
    show (if 0 ≤ i ∧ i < Y.1 - 1 then (if i < x then Y.2 i k else Y.2 (i + 1) k) else -1) = _
    rw [if_pos ⟨i0, i1⟩]
    split <;> rfl
  refine ⟨by rw [en]; omega, fun i i0 i1 => ?_, fun i j i0 i1 j0 j1 a1 a2 => ?_⟩
  · rw [en] at i1
    rw [eu i 0 i0 i1, eu i 1 i0 i1, eu i 2 i0 i1, eu i 3 i0 i1]
    exact h2 _ (by split <;> omega) (by split <;> omega)
  · rw [en] at i1 j1
    rw [eu i 1 i0 i1, eu j 1 j0 j1] at a1
    rw [eu i 0 i0 i1, eu j 0 j0 j1] at a2
    have := h3 _ _ (by split <;> omega) (by split <;> omega) (by split <;> omega) (by split <;> omega) a1 a2
    split at this <;> split at this <;> omega
theorem pUn {u : Int} (P : jP n v) (h : rUn v x u v') : jP (n + 1) v' := by
  rcases h with ⟨a1, _⟩ | ⟨a2, a3, a1⟩
  · rw [a1]; exact P.more
  · rw [a1]
    obtain ⟨p1, p2, p3, p4, p5⟩ := P
    refine ⟨p1, qYi_rm p2 a2.1 a2.2, p3, ?_, ?_⟩
    · show 0 ≤ v.2.2.2.1 ∧ v.2.2.2.1 ≤ n + 1
      omega
    · show 0 ≤ v.2.2.2.2 + 1 ∧ v.2.2.2.2 + 1 ≤ n + 1
      omega
theorem jc_letter (J : jC xs n v M) : Ci L 1 zm_P_letter [rV 4, iV x] M (fun u M' => zSm (fun a => 4 ≤ a ∧ a < 174) M M' ∧ ∃ v', rLt v x u v' ∧ jC xs (n + 1) v' M') := by
  obtain ⟨D, Y, g, a, b⟩ := v
  obtain ⟨⟨i1, i2, i3⟩, ⟨e1, e2, e3, e4, e5⟩, b1, b2, hx⟩ := id J
  dsimp only at e1 e2 e3 e4 e5
  subst e1 e2 e3 e4 e5
  refine wpc_mono (c_P_letter i3) (fun r M' hr => ?_)
  obtain ⟨u, hu, hh⟩ := hr
  refine ⟨u, hu, ?_⟩
  obtain ⟨h1, h2, h3⟩ := hh
  have h3 : (u, qPg M') = uLt (qPg M) x := h3
  have c1 := i1.keep h1 (fun a a1 _ _ _ => by omega)
  have c2 := i2.keep h1 (fun a a1 a2 => by omega)
  refine ⟨h1.up (fun a z => by omega), _, ⟨congrArg Prod.fst h3, rfl⟩, ⟨c1.1, c2.1, h2⟩, ⟨c1.2, c2.2, congrArg Prod.snd h3, h1 4 (by omega) 7, h1 4 (by omega) 8⟩, ?_, ?_, fun k => (h1 3 (by omega) k).trans (hx k)⟩
  · rw [h1 7 (by omega) 5]; omega
  · rw [h1 147 (by omega) 2]; omega
theorem jc_blank (J : jC xs n v M) : Ci L 1 zm_P_blank [rV 4] M (fun u M' => zSm (fun a => 4 ≤ a ∧ a < 174) M M' ∧ ∃ v', rBl v u v' ∧ jC xs (n + 1) v' M') := by
  obtain ⟨D, Y, g, a, b⟩ := v
  obtain ⟨⟨i1, i2, i3⟩, ⟨e1, e2, e3, e4, e5⟩, b1, b2, hx⟩ := id J
  dsimp only at e1 e2 e3 e4 e5
  subst e1 e2 e3 e4 e5
  refine wpc_mono (c_P_blank i3) (fun r M' hr => ?_)
  obtain ⟨u, hu, hh⟩ := hr
  refine ⟨u, hu, ?_⟩
  obtain ⟨h1, h2, h3, h4⟩ := hh
  have c1 := i1.keep h1 (fun a a1 _ _ _ => by omega)
  have c2 := i2.keep h1 (fun a a1 a2 => by omega)
  refine ⟨h1.up (fun a z => by omega), _, ⟨h3, rfl⟩, ⟨c1.1, c2.1, h2⟩, ⟨c1.2, c2.2, h4, h1 4 (by omega) 7, h1 4 (by omega) 8⟩, ?_, ?_, fun k => (h1 3 (by omega) k).trans (hx k)⟩
  · rw [h1 7 (by omega) 5]; omega
  · rw [h1 147 (by omega) 2]; omega
theorem jc_copy (J : jC xs n v M) (P : jP n v) (hn : n ≤ 512) : Ci L 3 zm_P_copy [rV 4] M (fun u M' => zSm (fun a => 4 ≤ a ∧ a < 174) M M' ∧ ∃ v', rCp v u v' ∧ jC xs (n + 1) v' M') := by
  obtain ⟨D, Y, g, a, b⟩ := v
  obtain ⟨⟨i1, i2, i3⟩, ⟨e1, e2, e3, e4, e5⟩, b1, b2, hx⟩ := id J
  dsimp only at e1 e2 e3 e4 e5
  subst e1 e2 e3 e4 e5
  refine wpc_mono (c_P_copy i1 i3 (by have := P.2.2.2.1; dsimp only at this; omega) (by omega)) (fun r M' hr => ?_)
  obtain ⟨u, hu, hh⟩ := hr
  refine ⟨u, hu, ?_⟩
  obtain ⟨h1, h2, h3, h4, h5, h6, h7⟩ := hh
  have c2 := i2.keep h1 (fun a a1 a2 => by omega)
  have hx' : ∀ k, M' 3 k = (xs k).toInt := fun k => (h1 3 (by omega) k).trans (hx k)
  have e147 := h1 147 (by omega) 2
  refine ⟨h1.up (fun a z => by omega), ?_⟩
  rcases h7 with ⟨q1, q2, q3, q4, q5⟩ | ⟨q1, q6, q2, q3, q4, q5⟩ | ⟨q1, q6, q2, q3, q4, q5⟩
  · exact ⟨_, Or.inl ⟨q1, q2, rfl⟩, ⟨h3, c2.1, h4⟩, ⟨q3, c2.2, q4, q5, h2⟩, ⟨h5, by omega⟩, by rw [e147]; omega, hx'⟩
  · exact ⟨_, Or.inr (Or.inl ⟨q1, q6, q2, rfl⟩), ⟨h3, c2.1, h4⟩, ⟨q3, c2.2, q4, q5, h2⟩, ⟨h5, by omega⟩, by rw [e147]; omega, hx'⟩
  · exact ⟨_, Or.inr (Or.inr ⟨q1, q6, q2, rfl⟩), ⟨h3, c2.1, h4⟩, ⟨q3, c2.2, q4, q5, h2⟩, ⟨h5, by omega⟩, by rw [e147]; omega, hx'⟩
theorem jc_correct (J : jC xs n v M) (P : jP n v) (hn : n ≤ 512) : Ci L 3 zm_P_correct [rV 4, iV c] M (fun u M' => zSm (fun a => 4 ≤ a ∧ a < 174) M M' ∧ ∃ v', rCr v c u v' ∧ jC xs (n + 1) v' M') := by
  obtain ⟨D, Y, g, a, b⟩ := v
  obtain ⟨⟨i1, i2, i3⟩, ⟨e1, e2, e3, e4, e5⟩, b1, b2, hx⟩ := id J
  dsimp only at e1 e2 e3 e4 e5
  subst e1 e2 e3 e4 e5
  refine wpc_mono (c_P_correct i1 i3 (by have := P.2.2.2.1; dsimp only at this; omega) (by omega)) (fun r M' hr => ?_)
  obtain ⟨u, hu, hh⟩ := hr
  refine ⟨u, hu, ?_⟩
  obtain ⟨h1, h2, h3, h4, h5, h6, h7⟩ := hh
  have c2 := i2.keep h1 (fun a a1 a2 => by omega)
  have hx' : ∀ k, M' 3 k = (xs k).toInt := fun k => (h1 3 (by omega) k).trans (hx k)
  have e147 := h1 147 (by omega) 2
  refine ⟨h1.up (fun a z => by omega), ?_⟩
  rcases h7 with ⟨q1, q2, q3, q4, q5⟩ | ⟨q1, q6, q2, q3, q4, q5⟩ | ⟨q1, q6, q2, q3, q4, q5⟩
  · exact ⟨_, Or.inl ⟨q1, q2, rfl⟩, ⟨h3, c2.1, h4⟩, ⟨q3, c2.2, q4, q5, h2⟩, ⟨h5, by omega⟩, by rw [e147]; omega, hx'⟩
  · exact ⟨_, Or.inr (Or.inl ⟨q1, q6, q2, rfl⟩), ⟨h3, c2.1, h4⟩, ⟨q3, c2.2, q4, q5, h2⟩, ⟨h5, by omega⟩, by rw [e147]; omega, hx'⟩
  · exact ⟨_, Or.inr (Or.inr ⟨q1, q6, q2, rfl⟩), ⟨h3, c2.1, h4⟩, ⟨q3, c2.2, q4, q5, h2⟩, ⟨h5, by omega⟩, by rw [e147]; omega, hx'⟩
theorem jc_drop (J : jC xs n v M) (hn : n ≤ 512) : Ci L 3 zm_P_drop [rV 4] M (fun u M' => zSm (fun a => 4 ≤ a ∧ a < 174) M M' ∧ ∃ v', rDr v u v' ∧ jC xs (n + 1) v' M') := by
  obtain ⟨D, Y, g, a, b⟩ := v
  obtain ⟨⟨i1, i2, i3⟩, ⟨e1, e2, e3, e4, e5⟩, b1, b2, hx⟩ := id J
  dsimp only at e1 e2 e3 e4 e5
  subst e1 e2 e3 e4 e5
  refine wpc_mono (c_P_drop i1 (by omega)) (fun r M' hr => ?_)
  obtain ⟨u, hu, hh⟩ := hr
  refine ⟨u, hu, ?_⟩
  obtain ⟨h1, h3, h5, h6, h7⟩ := hh
  have c2 := i2.keep h1 (fun a a1 a2 => by omega)
  have hx' : ∀ k, M' 3 k = (xs k).toInt := fun k => (h1 3 (by omega) k).trans (hx k)
  have e147 := h1 147 (by omega) 2
  have p1 := h1 5 (by omega) 1
  have p2 := h1 6 (by omega)
  refine ⟨h1.up (fun a z => by omega), ?_⟩
  rcases h7 with ⟨q1, q2, q3⟩ | ⟨q1, q2, q3⟩
  · exact ⟨_, Or.inl ⟨q1, q2, rfl⟩, ⟨h3, c2.1, i3.keep p1 p2⟩, ⟨q3, c2.2, qPg_eq p1 p2, h1 4 (by omega) 7, h1 4 (by omega) 8⟩, ⟨h5, by omega⟩, by rw [e147]; omega, hx'⟩
  · exact ⟨_, Or.inr ⟨q1, q2, rfl⟩, ⟨h3, c2.1, i3.keep p1 p2⟩, ⟨q3, c2.2, qPg_eq p1 p2, h1 4 (by omega) 7, h1 4 (by omega) 8⟩, ⟨h5, by omega⟩, by rw [e147]; omega, hx'⟩
theorem jc_band (J : jC xs n v M) (hn : n ≤ 512) : Ci L 3 zm_P_band [rV 4, iV x] M (fun u M' => zSm (fun a => 4 ≤ a ∧ a < 174) M M' ∧ ∃ v', rBd v x u v' ∧ jC xs (n + 1) v' M') := by
  obtain ⟨D, Y, g, a, b⟩ := v
  obtain ⟨⟨i1, i2, i3⟩, ⟨e1, e2, e3, e4, e5⟩, b1, b2, hx⟩ := id J
  dsimp only at e1 e2 e3 e4 e5
  subst e1 e2 e3 e4 e5
  refine wpc_mono (c_P_band i1 (by omega)) (fun r M' hr => ?_)
  obtain ⟨u, hu, hh⟩ := hr
  refine ⟨u, hu, ?_⟩
  obtain ⟨h1, h3, h5, h6, h7⟩ := hh
  have c2 := i2.keep h1 (fun a a1 a2 => by omega)
  have hx' : ∀ k, M' 3 k = (xs k).toInt := fun k => (h1 3 (by omega) k).trans (hx k)
  have e147 := h1 147 (by omega) 2
  have p1 := h1 5 (by omega) 1
  have p2 := h1 6 (by omega)
  refine ⟨h1.up (fun a z => by omega), ?_⟩
  rcases h7 with ⟨q1, q2, q3⟩ | ⟨q1, q2, q3⟩
  · exact ⟨_, Or.inl ⟨q1, q2, rfl⟩, ⟨h3, c2.1, i3.keep p1 p2⟩, ⟨q3, c2.2, qPg_eq p1 p2, h1 4 (by omega) 7, h1 4 (by omega) 8⟩, ⟨h5, by omega⟩, by rw [e147]; omega, hx'⟩
  · exact ⟨_, Or.inr ⟨q1, q2, rfl⟩, ⟨h3, c2.1, i3.keep p1 p2⟩, ⟨q3, c2.2, qPg_eq p1 p2, h1 4 (by omega) 7, h1 4 (by omega) 8⟩, ⟨h5, by omega⟩, by rw [e147]; omega, hx'⟩
theorem jc_of (J : jC xs n v M) : Ci L 6 zm_P_of [rV 4, iV x, iV y] M (fun u M' => zSm (fun a => 4 ≤ a ∧ a < 174) M M' ∧ ∃ v', rQ (xOf v.1 x y) v u v' ∧ jC xs (n + 1) v' M') := by
  obtain ⟨D, Y, g, a, b⟩ := v
  obtain ⟨⟨i1, i2, i3⟩, ⟨e1, e2, e3, e4, e5⟩, b1, b2, hx⟩ := id J
  dsimp only at e1 e2 e3 e4 e5
  subst e1 e2 e3 e4 e5
  refine wpc_mono (c_P_of i1) (fun r M' hr => ?_)
  obtain ⟨u, hu, hh⟩ := hr
  refine ⟨u, hu, ?_⟩
  obtain ⟨h1, h2, h3, h4⟩ := hh
  have c2 := i2.keep h2 (fun a a1 a2 => by omega)
  exact ⟨h2.up (fun a z => by omega), _, ⟨h1, rfl⟩, J.q (h2.up (fun a z => by omega)) h3 c2.1 h4 c2.2⟩
theorem jc_collate (J : jC xs n v M) : Ci L 4 zm_P_collate [rV 4, iV x, iV y, iV z] M (fun u M' => zSm (fun a => 4 ≤ a ∧ a < 174) M M' ∧ ∃ v', rQ (xCo v.1 x y z) v u v' ∧ jC xs (n + 1) v' M') := by
  obtain ⟨D, Y, g, a, b⟩ := v
  obtain ⟨⟨i1, i2, i3⟩, ⟨e1, e2, e3, e4, e5⟩, b1, b2, hx⟩ := id J
  dsimp only at e1 e2 e3 e4 e5
  subst e1 e2 e3 e4 e5
  refine wpc_mono (c_P_collate i1) (fun r M' hr => ?_)
  obtain ⟨u, hu, hh⟩ := hr
  refine ⟨u, hu, ?_⟩
  obtain ⟨h1, h2, h3, h4⟩ := hh
  have c2 := i2.keep h2 (fun a a1 a2 => by omega)
  exact ⟨h2.up (fun a z => by omega), _, ⟨h1, rfl⟩, J.q (h2.up (fun a z => by omega)) h3 c2.1 h4 c2.2⟩
theorem jc_step (J : jC xs n v M) : Ci L 4 zm_P_step [rV 4, iV x, iV y, iV z] M (fun u M' => zSm (fun a => 4 ≤ a ∧ a < 174) M M' ∧ ∃ v', rQ (xSp v.1 x y z) v u v' ∧ jC xs (n + 1) v' M') := by
  obtain ⟨D, Y, g, a, b⟩ := v
  obtain ⟨⟨i1, i2, i3⟩, ⟨e1, e2, e3, e4, e5⟩, b1, b2, hx⟩ := id J
  dsimp only at e1 e2 e3 e4 e5
  subst e1 e2 e3 e4 e5
  refine wpc_mono (c_P_step i1) (fun r M' hr => ?_)
  obtain ⟨u, hu, hh⟩ := hr
  refine ⟨u, hu, ?_⟩
  obtain ⟨h1, h2, h3, h4⟩ := hh
  have c2 := i2.keep h2 (fun a a1 a2 => by omega)
  exact ⟨h2.up (fun a z => by omega), _, ⟨h1, rfl⟩, J.q (h2.up (fun a z => by omega)) h3 c2.1 h4 c2.2⟩
theorem jc_reading (J : jC xs n v M) : Ci L 6 zm_P_reading [rV 4, iV x, iV y] M (fun u M' => zSm (fun a => 4 ≤ a ∧ a < 174) M M' ∧ ∃ v', rQ (xRd v.1 x y) v u v' ∧ jC xs (n + 1) v' M') := by
  obtain ⟨D, Y, g, a, b⟩ := v
  obtain ⟨⟨i1, i2, i3⟩, ⟨e1, e2, e3, e4, e5⟩, b1, b2, hx⟩ := id J
  dsimp only at e1 e2 e3 e4 e5
  subst e1 e2 e3 e4 e5
  refine wpc_mono (c_P_reading i1) (fun r M' hr => ?_)
  obtain ⟨u, hu, hh⟩ := hr
  refine ⟨u, hu, ?_⟩
  obtain ⟨h1, h2, h3, h4⟩ := hh
  have c2 := i2.keep h2 (fun a a1 a2 => by omega)
  exact ⟨h2.up (fun a z => by omega), _, ⟨h1, rfl⟩, J.q (h2.up (fun a z => by omega)) h3 c2.1 h4 c2.2⟩
theorem jc_states (J : jC xs n v M) : Ci L 6 zm_P_states [rV 4, iV x] M (fun u M' => zSm (fun a => 4 ≤ a ∧ a < 174) M M' ∧ ∃ v', rQ (xSs v.1 x) v u v' ∧ jC xs (n + 1) v' M') := by
  obtain ⟨D, Y, g, a, b⟩ := v
  obtain ⟨⟨i1, i2, i3⟩, ⟨e1, e2, e3, e4, e5⟩, b1, b2, hx⟩ := id J
  dsimp only at e1 e2 e3 e4 e5
  subst e1 e2 e3 e4 e5
  refine wpc_mono (c_P_states i1) (fun r M' hr => ?_)
  obtain ⟨u, hu, hh⟩ := hr
  refine ⟨u, hu, ?_⟩
  obtain ⟨h1, h2, h3, h4⟩ := hh
  have c2 := i2.keep h2 (fun a a1 a2 => by omega)
  exact ⟨h2.up (fun a z => by omega), _, ⟨h1, rfl⟩, J.q (h2.up (fun a z => by omega)) h3 c2.1 h4 c2.2⟩
theorem jc_state (J : jC xs n v M) : Ci L 6 zm_P_state [rV 4, iV x, iV y] M (fun u M' => zSm (fun a => 4 ≤ a ∧ a < 174) M M' ∧ ∃ v', rQ (xSe v.1 x y) v u v' ∧ jC xs (n + 1) v' M') := by
  obtain ⟨D, Y, g, a, b⟩ := v
  obtain ⟨⟨i1, i2, i3⟩, ⟨e1, e2, e3, e4, e5⟩, b1, b2, hx⟩ := id J
  dsimp only at e1 e2 e3 e4 e5
  subst e1 e2 e3 e4 e5
  refine wpc_mono (c_P_state i1) (fun r M' hr => ?_)
  obtain ⟨u, hu, hh⟩ := hr
  refine ⟨u, hu, ?_⟩
  obtain ⟨h1, h2, h3, h4⟩ := hh
  have c2 := i2.keep h2 (fun a a1 a2 => by omega)
  exact ⟨h2.up (fun a z => by omega), _, ⟨h1, rfl⟩, J.q (h2.up (fun a z => by omega)) h3 c2.1 h4 c2.2⟩
theorem jc_far (J : jC xs n v M) : Ci L 6 zm_P_far [rV 4, iV x, iV y] M (fun u M' => zSm (fun a => 4 ≤ a ∧ a < 174) M M' ∧ ∃ v', rQ (xFa v.1 x y) v u v' ∧ jC xs (n + 1) v' M') := by
  obtain ⟨D, Y, g, a, b⟩ := v
  obtain ⟨⟨i1, i2, i3⟩, ⟨e1, e2, e3, e4, e5⟩, b1, b2, hx⟩ := id J
  dsimp only at e1 e2 e3 e4 e5
  subst e1 e2 e3 e4 e5
  refine wpc_mono (c_P_far i1) (fun r M' hr => ?_)
  obtain ⟨u, hu, hh⟩ := hr
  refine ⟨u, hu, ?_⟩
  obtain ⟨h1, h2, h3, h4⟩ := hh
  have c2 := i2.keep h2 (fun a a1 a2 => by omega)
  exact ⟨h2.up (fun a z => by omega), _, ⟨h1, rfl⟩, J.q (h2.up (fun a z => by omega)) h3 c2.1 h4 c2.2⟩
theorem jc_turned (J : jC xs n v M) : Ci L 6 zm_P_turned [rV 4, iV x, iV y] M (fun u M' => zSm (fun a => 4 ≤ a ∧ a < 174) M M' ∧ ∃ v', rQ (xTu v.1 x y) v u v' ∧ jC xs (n + 1) v' M') := by
  obtain ⟨D, Y, g, a, b⟩ := v
  obtain ⟨⟨i1, i2, i3⟩, ⟨e1, e2, e3, e4, e5⟩, b1, b2, hx⟩ := id J
  dsimp only at e1 e2 e3 e4 e5
  subst e1 e2 e3 e4 e5
  refine wpc_mono (c_P_turned i1) (fun r M' hr => ?_)
  obtain ⟨u, hu, hh⟩ := hr
  refine ⟨u, hu, ?_⟩
  obtain ⟨h1, h2, h3, h4⟩ := hh
  have c2 := i2.keep h2 (fun a a1 a2 => by omega)
  exact ⟨h2.up (fun a z => by omega), _, ⟨h1, rfl⟩, J.q (h2.up (fun a z => by omega)) h3 c2.1 h4 c2.2⟩
theorem jc_sign (J : jC xs n v M) : Ci L 2 zm_P_sign [rV 4, iV x, iV y] M (fun u M' => zSm (fun a => 4 ≤ a ∧ a < 174) M M' ∧ ∃ v', rQ (xSg v.1 x y) v u v' ∧ jC xs (n + 1) v' M') := by
  obtain ⟨D, Y, g, a, b⟩ := v
  obtain ⟨⟨i1, i2, i3⟩, ⟨e1, e2, e3, e4, e5⟩, b1, b2, hx⟩ := id J
  dsimp only at e1 e2 e3 e4 e5
  subst e1 e2 e3 e4 e5
  refine wpc_mono (c_P_sign i1) (fun r M' hr => ?_)
  obtain ⟨h1, h2⟩ := hr
  subst h2
  exact ⟨_, h1, zSm.rf, _, ⟨rfl, rfl⟩, J.more⟩
theorem jc_seen (J : jC xs n v M) : Ci L 2 zm_P_seen [rV 4, iV x, iV y] M (fun u M' => zSm (fun a => 4 ≤ a ∧ a < 174) M M' ∧ ∃ v', rQ (xSn v.2.1 x y) v u v' ∧ jC xs (n + 1) v' M') := by
  obtain ⟨D, Y, g, a, b⟩ := v
  obtain ⟨⟨i1, i2, i3⟩, ⟨e1, e2, e3, e4, e5⟩, b1, b2, hx⟩ := id J
  dsimp only at e1 e2 e3 e4 e5
  subst e1 e2 e3 e4 e5
  refine wpc_mono (c_P_seen i2.1) (fun r M' hr => ?_)
  obtain ⟨h1, h2⟩ := hr
  subst h2
  exact ⟨_, h1, zSm.rf, _, ⟨rfl, rfl⟩, J.more⟩
theorem jc_count (J : jC xs n v M) : Ci L 1 zm_P_count [rV 4, iV x] M (fun u M' => zSm (fun a => 4 ≤ a ∧ a < 174) M M' ∧ ∃ v', rQ (xCt v.1 v.2.1 v.2.2.1 v.2.2.2.1 v.2.2.2.2 x) v u v' ∧ jC xs (n + 1) v' M') := by
  obtain ⟨D, Y, g, a, b⟩ := v
  obtain ⟨⟨i1, i2, i3⟩, ⟨e1, e2, e3, e4, e5⟩, b1, b2, hx⟩ := id J
  dsimp only at e1 e2 e3 e4 e5
  subst e1 e2 e3 e4 e5
  refine wpc_mono (c_P_count) (fun r M' hr => ?_)
  obtain ⟨h1, h2⟩ := hr
  subst h2
  exact ⟨_, h1, zSm.rf, _, ⟨rfl, rfl⟩, J.more⟩
theorem jc_forme (J : jC xs n v M) : Ci L 11 zm_P_forme [rV 4, iV x, iV y] M (fun u M' => zSm (fun a => 4 ≤ a ∧ a < 174) M M' ∧ ∃ v', rQ (xFm v.2.1 x y) v u v' ∧ jC xs (n + 1) v' M') := by
  obtain ⟨D, Y, g, a, b⟩ := v
  obtain ⟨⟨i1, i2, i3⟩, ⟨e1, e2, e3, e4, e5⟩, b1, b2, hx⟩ := id J
  dsimp only at e1 e2 e3 e4 e5
  subst e1 e2 e3 e4 e5
  refine wpc_mono (c_P_forme i2) (fun r M' hr => ?_)
  obtain ⟨u, hu, hh⟩ := hr
  refine ⟨u, hu, ?_⟩
  obtain ⟨h1, h2, h3, h4⟩ := hh
  have c1 := i1.keep h2 (fun a a1 _ _ _ => by omega)
  exact ⟨h2.up (fun a z => by omega), _, ⟨h1, rfl⟩, J.q (h2.up (fun a z => by omega)) c1.1 h3 c1.2 h4⟩
theorem jc_formes (J : jC xs n v M) : Ci L 11 zm_P_formes [rV 4, iV x] M (fun u M' => zSm (fun a => 4 ≤ a ∧ a < 174) M M' ∧ ∃ v', rQ (xFs v.2.1 x) v u v' ∧ jC xs (n + 1) v' M') := by
  obtain ⟨D, Y, g, a, b⟩ := v
  obtain ⟨⟨i1, i2, i3⟩, ⟨e1, e2, e3, e4, e5⟩, b1, b2, hx⟩ := id J
  dsimp only at e1 e2 e3 e4 e5
  subst e1 e2 e3 e4 e5
  refine wpc_mono (c_P_formes i2) (fun r M' hr => ?_)
  obtain ⟨u, hu, hh⟩ := hr
  refine ⟨u, hu, ?_⟩
  obtain ⟨h1, h2, h3, h4⟩ := hh
  have c1 := i1.keep h2 (fun a a1 _ _ _ => by omega)
  exact ⟨h2.up (fun a z => by omega), _, ⟨h1, rfl⟩, J.q (h2.up (fun a z => by omega)) c1.1 h3 c1.2 h4⟩
theorem jc_order (J : jC xs n v M) : Ci L 4 zm_P_order [rV 4, iV x] M (fun u M' => zSm (fun a => 4 ≤ a ∧ a < 174) M M' ∧ ∃ v', rQ (xOd v.2.1 x) v u v' ∧ jC xs (n + 1) v' M') := by
  obtain ⟨D, Y, g, a, b⟩ := v
  obtain ⟨⟨i1, i2, i3⟩, ⟨e1, e2, e3, e4, e5⟩, b1, b2, hx⟩ := id J
  dsimp only at e1 e2 e3 e4 e5
  subst e1 e2 e3 e4 e5
  refine wpc_mono (c_P_order i2) (fun r M' hr => ?_)
  obtain ⟨u, hu, hh⟩ := hr
  refine ⟨u, hu, ?_⟩
  obtain ⟨h1, h2, h3, h4⟩ := hh
  have c1 := i1.keep h2 (fun a a1 _ _ _ => by omega)
  exact ⟨h2.up (fun a z => by omega), _, ⟨h1, rfl⟩, J.q (h2.up (fun a z => by omega)) c1.1 h3 c1.2 h4⟩
/-- the sightings are others: what was built of them is old -/
theorem qIS_new (h : qIS M) (s : zSm (fun a => a = 4 ∨ 147 ≤ a ∧ a < 161) M M') (e : M' 147 2 = M 147 2 + 1) (hy : qYi (qYC M')) : qIS M' := by
  obtain ⟨h1, h2, h3, h4, h5, h6⟩ := h
  have e1 := s 161 (by omega) 7
  have e2 := s 167 (by omega) 6
  have e3 := s 172 (by omega) 2
  exact ⟨hy, fun z => absurd z (by omega), fun z => absurd z (by omega), fun z => absurd z (by omega), by omega, by omega⟩
theorem jc_see (J : jC xs n v M) (hn : n ≤ 512) : Ci L 1 zm_P_see [rV 4, iV x, iV y, iV z, iV w] M (fun u M' => zSm (fun a => 4 ≤ a ∧ a < 174) M M' ∧ ∃ v', rSe v x y z w u v' ∧ jC xs (n + 1) v' M') := by
  obtain ⟨D, Y, g, a, b⟩ := v
  obtain ⟨⟨i1, i2, i3⟩, ⟨e1, e2, e3, e4, e5⟩, b1, b2, hx⟩ := id J
  dsimp only at e1 e2 e3 e4 e5
  subst e1 e2 e3 e4 e5
  refine wpc_mono (c_P_see i2.1 (by omega)) (fun r M' hr => ?_)
  obtain ⟨u, hu, hh⟩ := hr
  refine ⟨u, hu, ?_⟩
  rcases hh with ⟨h1, h2⟩ | ⟨h1, h2, h3, h4, h5, h6, h7, h8⟩
  · subst h1
    exact ⟨zSm.rf, _, Or.inl ⟨rfl, h2⟩, J.more⟩
  · have c1 := i1.keep h1 (fun a a1 _ _ _ => by omega)
    have p1 := h1 5 (by omega) 1
    have p2 := h1 6 (by omega)
    refine ⟨h1.up (fun a z => by omega), _, Or.inr ⟨h3, h4, h5, h6, rfl⟩, ⟨c1.1, qIS_new i2 (h1.up (fun a z => by omega)) h2 h8, i3.keep p1 p2⟩, ⟨c1.2, h7, qPg_eq p1 p2, h1 4 (by omega) 7, h1 4 (by omega) 8⟩, ?_, by omega, fun k => (h1 3 (by omega) k).trans (hx k)⟩
    rw [h1 7 (by omega) 5]; omega
theorem jc_unsee (J : jC xs n v M) (P : jP n v) (hn : n ≤ 512) : Ci L 2 zm_P_unsee [rV 4, iV x] M (fun u M' => zSm (fun a => 4 ≤ a ∧ a < 174) M M' ∧ ∃ v', rUn v x u v' ∧ jC xs (n + 1) v' M') := by
  obtain ⟨D, Y, g, a, b⟩ := v
  obtain ⟨⟨i1, i2, i3⟩, ⟨e1, e2, e3, e4, e5⟩, b1, b2, hx⟩ := id J
  dsimp only at e1 e2 e3 e4 e5
  subst e1 e2 e3 e4 e5
  refine wpc_mono (c_P_unsee i2.1 (by omega) (by have := P.2.2.2.2; dsimp only at this; omega)) (fun r M' hr => ?_)
  obtain ⟨u, hu, hh⟩ := hr
  refine ⟨u, hu, ?_⟩
  rcases hh with ⟨h1, h2⟩ | ⟨h1, h0, h9, h2, h3, h6, h7, h8⟩
  · subst h1
    exact ⟨zSm.rf, _, Or.inl ⟨rfl, h2⟩, J.more⟩
  · have c1 := i1.keep h1 (fun a a1 _ _ _ => by omega)
    have p1 := h1 5 (by omega) 1
    have p2 := h1 6 (by omega)
    refine ⟨h1.up (fun a z => by omega), _, Or.inr ⟨h3, h6, rfl⟩, ⟨c1.1, qIS_new i2 h1 h2 h8, i3.keep p1 p2⟩, ⟨c1.2, h7, qPg_eq p1 p2, h0 7 (by decide), h9⟩, ?_, by omega, fun k => (h1 3 (by omega) k).trans (hx k)⟩
    rw [h1 7 (by omega) 5]; omega
theorem jc_digest (J : jC xs n v M) : Cl L 12 zm_P_digest [rV 4] M (fun u M' => zSm (fun a => 4 ≤ a ∧ a < 174) M M' ∧ u = xDg v.1 v.2.1 v.2.2.1 v.2.2.2.1 v.2.2.2.2 ∧ jC xs (n + 1) v M') := by
  obtain ⟨D, Y, g, a, b⟩ := v
  obtain ⟨⟨i1, i2, i3⟩, ⟨e1, e2, e3, e4, e5⟩, b1, b2, hx⟩ := id J
  dsimp only at e1 e2 e3 e4 e5
  subst e1 e2 e3 e4 e5
  refine wpc_mono (c_P_digest i1 i2 i3) (fun r M' hr => ?_)
  obtain ⟨u, hu, h1, h2, h3, h4, h5, h6⟩ := hr
  exact ⟨u, hu, h2.up (fun a z => by omega), h1, J.q h2 h3 h4 h5 h6⟩
theorem jm_letter (J : jM v M) (P : jP n v) : Ci L 1 zm_M_letter [rV 174, iV x] M (fun u M' => mF (fun a k => 174 ≤ a) M M' ∧ ∃ v', rLt v x u v' ∧ jM v' M') := by
  obtain ⟨D, Y, g, a, b⟩ := v
  obtain ⟨h1, h2, h3, h4, h5⟩ := id J
  obtain ⟨p1, p2, p3, p4, p5⟩ := P
  dsimp only at h1 h2 h3 h4 h5 p1 p2 p3 p4 p5
  refine wpc_mono (c_M_letter h3 p3) (fun r M' hr => ?_)
  obtain ⟨u, hu, hh⟩ := hr
  refine ⟨u, hu, ?_⟩
  obtain ⟨k1, k2, k3⟩ := hh
  exact ⟨k1.up (fun a k z => by omega), _, ⟨k2, rfl⟩, h1.keep k1 (by omega) (by omega) (by omega), h2.keep k1 (by omega) (by omega), k3, (k1 174 6 (by omega)).trans h4, (k1 174 12 (by omega)).trans h5⟩
theorem jm_blank (J : jM v M) (P : jP n v) : Ci L 1 zm_M_blank [rV 174] M (fun u M' => mF (fun a k => 174 ≤ a) M M' ∧ ∃ v', rBl v u v' ∧ jM v' M') := by
  obtain ⟨D, Y, g, a, b⟩ := v
  obtain ⟨h1, h2, h3, h4, h5⟩ := id J
  obtain ⟨p1, p2, p3, p4, p5⟩ := P
  dsimp only at h1 h2 h3 h4 h5 p1 p2 p3 p4 p5
  refine wpc_mono (c_M_blank h3) (fun r M' hr => ?_)
  obtain ⟨u, hu, hh⟩ := hr
  refine ⟨u, hu, ?_⟩
  obtain ⟨k1, k2, k3⟩ := hh
  exact ⟨k1.up (fun a k z => by omega), _, ⟨k2, rfl⟩, h1.keep k1 (by omega) (by omega) (by omega), h2.keep k1 (by omega) (by omega), k3, (k1 174 6 (by omega)).trans h4, (k1 174 12 (by omega)).trans h5⟩
theorem jm_copy (J : jM v M) (P : jP n v) (hn : n ≤ 512) : Ci L 2 zm_M_copy [rV 174] M (fun u M' => mF (fun a k => 174 ≤ a) M M' ∧ ∃ v', rCp v u v' ∧ jM v' M') := by
  obtain ⟨D, Y, g, a, b⟩ := v
  obtain ⟨h1, h2, h3, h4, h5⟩ := id J
  obtain ⟨p1, p2, p3, p4, p5⟩ := P
  dsimp only at h1 h2 h3 h4 h5 p1 p2 p3 p4 p5
  refine wpc_mono (c_M_copy h1 p1 h3 p3 (by omega)) (fun r M' hr => ?_)
  obtain ⟨u, hu, hh⟩ := hr
  refine ⟨u, hu, ?_⟩
  rcases hh with ⟨q1, q2, q3⟩ | ⟨q1, q6, q2, q3⟩ | ⟨q1, q6, q2, q3, q4, q5, q7⟩
  · rw [q3]; exact ⟨mF.rf, _, Or.inl ⟨q1, q2, rfl⟩, J⟩
  · rw [q3]; exact ⟨mF.rf, _, Or.inr (Or.inl ⟨q1, q6, q2, rfl⟩), J⟩
  · exact ⟨q3.up (fun a k z => by omega), _, Or.inr (Or.inr ⟨q1, q6, q2, rfl⟩), q4, h2.keep q3 (by omega) (by omega), q5, by rw [q7, h4], (q3 174 12 (by omega)).trans h5⟩
theorem jm_correct (J : jM v M) (P : jP n v) (hn : n ≤ 512) : Ci L 2 zm_M_correct [rV 174, iV c] M (fun u M' => mF (fun a k => 174 ≤ a) M M' ∧ ∃ v', rCr v c u v' ∧ jM v' M') := by
  obtain ⟨D, Y, g, a, b⟩ := v
  obtain ⟨h1, h2, h3, h4, h5⟩ := id J
  obtain ⟨p1, p2, p3, p4, p5⟩ := P
  dsimp only at h1 h2 h3 h4 h5 p1 p2 p3 p4 p5
  refine wpc_mono (c_M_correct h1 p1 h3 p3 (by omega)) (fun r M' hr => ?_)
  obtain ⟨u, hu, hh⟩ := hr
  refine ⟨u, hu, ?_⟩
  rcases hh with ⟨q1, q2, q3⟩ | ⟨q1, q6, q2, q3⟩ | ⟨q1, q6, q2, q3, q4, q5, q7⟩
  · rw [q3]; exact ⟨mF.rf, _, Or.inl ⟨q1, q2, rfl⟩, J⟩
  · rw [q3]; exact ⟨mF.rf, _, Or.inr (Or.inl ⟨q1, q6, q2, rfl⟩), J⟩
  · exact ⟨q3.up (fun a k z => by omega), _, Or.inr (Or.inr ⟨q1, q6, q2, rfl⟩), q4, h2.keep q3 (by omega) (by omega), q5, by rw [q7, h4], (q3 174 12 (by omega)).trans h5⟩
theorem jm_drop (J : jM v M) (P : jP n v) : Ci L 2 zm_M_drop [rV 174] M (fun u M' => mF (fun a k => 174 ≤ a) M M' ∧ ∃ v', rDr v u v' ∧ jM v' M') := by
  obtain ⟨D, Y, g, a, b⟩ := v
  obtain ⟨h1, h2, h3, h4, h5⟩ := id J
  obtain ⟨p1, p2, p3, p4, p5⟩ := P
  dsimp only at h1 h2 h3 h4 h5 p1 p2 p3 p4 p5
  refine wpc_mono (c_M_drop h1 p1) (fun r M' hr => ?_)
  obtain ⟨u, hu, hh⟩ := hr
  refine ⟨u, hu, ?_⟩
  rcases hh with ⟨q1, q2, q3⟩ | ⟨q1, q2, q3, q4⟩
  · rw [q3]; exact ⟨mF.rf, _, Or.inl ⟨q1, q2, rfl⟩, J⟩
  · exact ⟨q3.up (fun a k z => by omega), _, Or.inr ⟨q1, q2, rfl⟩, q4, h2.keep q3 (by omega) (by omega), h3.keep q3 (by omega) (by omega), (q3 174 6 (by omega)).trans h4, (q3 174 12 (by omega)).trans h5⟩
theorem jm_band (J : jM v M) (P : jP n v) : Ci L 2 zm_M_band [rV 174, iV x] M (fun u M' => mF (fun a k => 174 ≤ a) M M' ∧ ∃ v', rBd v x u v' ∧ jM v' M') := by
  obtain ⟨D, Y, g, a, b⟩ := v
  obtain ⟨h1, h2, h3, h4, h5⟩ := id J
  obtain ⟨p1, p2, p3, p4, p5⟩ := P
  dsimp only at h1 h2 h3 h4 h5 p1 p2 p3 p4 p5
  refine wpc_mono (c_M_band h1) (fun r M' hr => ?_)
  obtain ⟨u, hu, hh⟩ := hr
  refine ⟨u, hu, ?_⟩
  rcases hh with ⟨q1, q2, q3⟩ | ⟨q1, q2, q3, q4⟩
  · rw [q3]; exact ⟨mF.rf, _, Or.inl ⟨q1, q2, rfl⟩, J⟩
  · exact ⟨q3.up (fun a k z => by omega), _, Or.inr ⟨q1, q2, rfl⟩, q4, h2.keep q3 (by omega) (by omega), h3.keep q3 (by omega) (by omega), (q3 174 6 (by omega)).trans h4, (q3 174 12 (by omega)).trans h5⟩
theorem jm_of (J : jM v M) (P : jP n v) : Ci L 8 zm_M_of [rV 174, iV x, iV y] M (fun u M' => mF (fun a k => 174 ≤ a) M M' ∧ ∃ v', rQ (xOf v.1 x y) v u v' ∧ jM v' M') := by
  obtain ⟨D, Y, g, a, b⟩ := v
  obtain ⟨h1, h2, h3, h4, h5⟩ := id J
  obtain ⟨p1, p2, p3, p4, p5⟩ := P
  dsimp only at h1 h2 h3 h4 h5 p1 p2 p3 p4 p5
  refine wpc_mono (c_M_of h1 p1) (fun r M' hr => ?_)
  obtain ⟨u, hu, hh⟩ := hr
  refine ⟨u, hu, ?_⟩
  exact ⟨hh.2.up (fun a k z => by omega), _, ⟨hh.1, rfl⟩, J.q hh.2⟩
theorem jm_collate (J : jM v M) (P : jP n v) : Ci L 6 zm_M_collate [rV 174, iV x, iV y, iV z] M (fun u M' => mF (fun a k => 174 ≤ a) M M' ∧ ∃ v', rQ (xCo v.1 x y z) v u v' ∧ jM v' M') := by
  obtain ⟨D, Y, g, a, b⟩ := v
  obtain ⟨h1, h2, h3, h4, h5⟩ := id J
  obtain ⟨p1, p2, p3, p4, p5⟩ := P
  dsimp only at h1 h2 h3 h4 h5 p1 p2 p3 p4 p5
  refine wpc_mono (c_M_collate h1 p1) (fun r M' hr => ?_)
  obtain ⟨u, hu, hh⟩ := hr
  refine ⟨u, hu, ?_⟩
  exact ⟨hh.2.up (fun a k z => by omega), _, ⟨hh.1, rfl⟩, J.q hh.2⟩
theorem jm_step (J : jM v M) (P : jP n v) : Ci L 6 zm_M_step [rV 174, iV x, iV y, iV z] M (fun u M' => mF (fun a k => 174 ≤ a) M M' ∧ ∃ v', rQ (xSp v.1 x y z) v u v' ∧ jM v' M') := by
  obtain ⟨D, Y, g, a, b⟩ := v
  obtain ⟨h1, h2, h3, h4, h5⟩ := id J
  obtain ⟨p1, p2, p3, p4, p5⟩ := P
  dsimp only at h1 h2 h3 h4 h5 p1 p2 p3 p4 p5
  refine wpc_mono (c_M_step h1 p1) (fun r M' hr => ?_)
  obtain ⟨u, hu, hh⟩ := hr
  refine ⟨u, hu, ?_⟩
  exact ⟨hh.2.up (fun a k z => by omega), _, ⟨hh.1, rfl⟩, J.q hh.2⟩
theorem jm_reading (J : jM v M) (P : jP n v) : Ci L 6 zm_M_reading [rV 174, iV x, iV y] M (fun u M' => mF (fun a k => 174 ≤ a) M M' ∧ ∃ v', rQ (xRd v.1 x y) v u v' ∧ jM v' M') := by
  obtain ⟨D, Y, g, a, b⟩ := v
  obtain ⟨h1, h2, h3, h4, h5⟩ := id J
  obtain ⟨p1, p2, p3, p4, p5⟩ := P
  dsimp only at h1 h2 h3 h4 h5 p1 p2 p3 p4 p5
  refine wpc_mono (c_M_reading h1 p1) (fun r M' hr => ?_)
  obtain ⟨u, hu, hh⟩ := hr
  refine ⟨u, hu, ?_⟩
  exact ⟨hh.2.up (fun a k z => by omega), _, ⟨hh.1, rfl⟩, J.q hh.2⟩
theorem jm_states (J : jM v M) (P : jP n v) : Ci L 8 zm_M_states [rV 174, iV x] M (fun u M' => mF (fun a k => 174 ≤ a) M M' ∧ ∃ v', rQ (xSs v.1 x) v u v' ∧ jM v' M') := by
  obtain ⟨D, Y, g, a, b⟩ := v
  obtain ⟨h1, h2, h3, h4, h5⟩ := id J
  obtain ⟨p1, p2, p3, p4, p5⟩ := P
  dsimp only at h1 h2 h3 h4 h5 p1 p2 p3 p4 p5
  refine wpc_mono (c_M_states h1 p1) (fun r M' hr => ?_)
  obtain ⟨u, hu, hh⟩ := hr
  refine ⟨u, hu, ?_⟩
  exact ⟨hh.2.up (fun a k z => by omega), _, ⟨hh.1, rfl⟩, J.q hh.2⟩
theorem jm_state (J : jM v M) (P : jP n v) : Ci L 8 zm_M_state [rV 174, iV x, iV y] M (fun u M' => mF (fun a k => 174 ≤ a) M M' ∧ ∃ v', rQ (xSe v.1 x y) v u v' ∧ jM v' M') := by
  obtain ⟨D, Y, g, a, b⟩ := v
  obtain ⟨h1, h2, h3, h4, h5⟩ := id J
  obtain ⟨p1, p2, p3, p4, p5⟩ := P
  dsimp only at h1 h2 h3 h4 h5 p1 p2 p3 p4 p5
  refine wpc_mono (c_M_state h1 p1) (fun r M' hr => ?_)
  obtain ⟨u, hu, hh⟩ := hr
  refine ⟨u, hu, ?_⟩
  exact ⟨hh.2.up (fun a k z => by omega), _, ⟨hh.1, rfl⟩, J.q hh.2⟩
theorem jm_far (J : jM v M) (P : jP n v) : Ci L 7 zm_M_far [rV 174, iV x, iV y] M (fun u M' => mF (fun a k => 174 ≤ a) M M' ∧ ∃ v', rQ (xFa v.1 x y) v u v' ∧ jM v' M') := by
  obtain ⟨D, Y, g, a, b⟩ := v
  obtain ⟨h1, h2, h3, h4, h5⟩ := id J
  obtain ⟨p1, p2, p3, p4, p5⟩ := P
  dsimp only at h1 h2 h3 h4 h5 p1 p2 p3 p4 p5
  refine wpc_mono (c_M_far h1 p1) (fun r M' hr => ?_)
  obtain ⟨u, hu, hh⟩ := hr
  refine ⟨u, hu, ?_⟩
  exact ⟨hh.2.up (fun a k z => by omega), _, ⟨hh.1, rfl⟩, J.q hh.2⟩
theorem jm_turned (J : jM v M) (P : jP n v) : Ci L 7 zm_M_turned [rV 174, iV x, iV y] M (fun u M' => mF (fun a k => 174 ≤ a) M M' ∧ ∃ v', rQ (xTu v.1 x y) v u v' ∧ jM v' M') := by
  obtain ⟨D, Y, g, a, b⟩ := v
  obtain ⟨h1, h2, h3, h4, h5⟩ := id J
  obtain ⟨p1, p2, p3, p4, p5⟩ := P
  dsimp only at h1 h2 h3 h4 h5 p1 p2 p3 p4 p5
  refine wpc_mono (c_M_turned h1 p1) (fun r M' hr => ?_)
  obtain ⟨u, hu, hh⟩ := hr
  refine ⟨u, hu, ?_⟩
  exact ⟨hh.2.up (fun a k z => by omega), _, ⟨hh.1, rfl⟩, J.q hh.2⟩
theorem jm_forme (J : jM v M) (P : jP n v) : Ci L 7 zm_M_forme [rV 174, iV x, iV y] M (fun u M' => mF (fun a k => 174 ≤ a) M M' ∧ ∃ v', rQ (xFm v.2.1 x y) v u v' ∧ jM v' M') := by
  obtain ⟨D, Y, g, a, b⟩ := v
  obtain ⟨h1, h2, h3, h4, h5⟩ := id J
  obtain ⟨p1, p2, p3, p4, p5⟩ := P
  dsimp only at h1 h2 h3 h4 h5 p1 p2 p3 p4 p5
  refine wpc_mono (c_M_forme h2 p2) (fun r M' hr => ?_)
  obtain ⟨u, hu, hh⟩ := hr
  refine ⟨u, hu, ?_⟩
  exact ⟨hh.2.up (fun a k z => by omega), _, ⟨hh.1, rfl⟩, J.q hh.2⟩
theorem jm_formes (J : jM v M) (P : jP n v) : Ci L 6 zm_M_formes [rV 174, iV x] M (fun u M' => mF (fun a k => 174 ≤ a) M M' ∧ ∃ v', rQ (xFs v.2.1 x) v u v' ∧ jM v' M') := by
  obtain ⟨D, Y, g, a, b⟩ := v
  obtain ⟨h1, h2, h3, h4, h5⟩ := id J
  obtain ⟨p1, p2, p3, p4, p5⟩ := P
  dsimp only at h1 h2 h3 h4 h5 p1 p2 p3 p4 p5
  refine wpc_mono (c_M_formes h2 p2) (fun r M' hr => ?_)
  obtain ⟨u, hu, hh⟩ := hr
  refine ⟨u, hu, ?_⟩
  exact ⟨hh.2.up (fun a k z => by omega), _, ⟨hh.1, rfl⟩, J.q hh.2⟩
theorem jm_order (J : jM v M) (P : jP n v) : Ci L 5 zm_M_order [rV 174, iV x] M (fun u M' => mF (fun a k => 174 ≤ a) M M' ∧ ∃ v', rQ (xOd v.2.1 x) v u v' ∧ jM v' M') := by
  obtain ⟨D, Y, g, a, b⟩ := v
  obtain ⟨h1, h2, h3, h4, h5⟩ := id J
  obtain ⟨p1, p2, p3, p4, p5⟩ := P
  dsimp only at h1 h2 h3 h4 h5 p1 p2 p3 p4 p5
  refine wpc_mono (c_M_order h2 p2) (fun r M' hr => ?_)
  obtain ⟨u, hu, hh⟩ := hr
  refine ⟨u, hu, ?_⟩
  exact ⟨hh.2.up (fun a k z => by omega), _, ⟨hh.1, rfl⟩, J.q hh.2⟩
theorem jm_sign (J : jM v M) (P : jP n v) : Ci L 2 zm_M_sign [rV 174, iV x, iV y] M (fun u M' => mF (fun a k => 174 ≤ a) M M' ∧ ∃ v', rQ (xSg v.1 x y) v u v' ∧ jM v' M') := by
  obtain ⟨D, Y, g, a, b⟩ := v
  obtain ⟨h1, h2, h3, h4, h5⟩ := id J
  obtain ⟨p1, p2, p3, p4, p5⟩ := P
  dsimp only at h1 h2 h3 h4 h5 p1 p2 p3 p4 p5
  refine wpc_mono (c_M_sign h1 p1) (fun r M' hr => ?_)
  obtain ⟨u, hu, hh⟩ := hr
  refine ⟨u, hu, ?_⟩
  rw [hh.2]; exact ⟨mF.rf, _, ⟨hh.1, rfl⟩, J⟩
theorem jm_seen (J : jM v M) (P : jP n v) : Ci L 2 zm_M_seen [rV 174, iV x, iV y] M (fun u M' => mF (fun a k => 174 ≤ a) M M' ∧ ∃ v', rQ (xSn v.2.1 x y) v u v' ∧ jM v' M') := by
  obtain ⟨D, Y, g, a, b⟩ := v
  obtain ⟨h1, h2, h3, h4, h5⟩ := id J
  obtain ⟨p1, p2, p3, p4, p5⟩ := P
  dsimp only at h1 h2 h3 h4 h5 p1 p2 p3 p4 p5
  refine wpc_mono (c_M_seen h2 p2) (fun r M' hr => ?_)
  obtain ⟨k1, k2⟩ := hr
  subst k2
  exact ⟨_, k1, mF.rf, _, ⟨rfl, rfl⟩, J⟩
theorem jm_count (J : jM v M) (P : jP n v) : Ci L 1 zm_M_count [rV 174, iV x] M (fun u M' => mF (fun a k => 174 ≤ a) M M' ∧ ∃ v', rQ (xCt v.1 v.2.1 v.2.2.1 v.2.2.2.1 v.2.2.2.2 x) v u v' ∧ jM v' M') := by
  obtain ⟨D, Y, g, a, b⟩ := v
  obtain ⟨h1, h2, h3, h4, h5⟩ := id J
  obtain ⟨p1, p2, p3, p4, p5⟩ := P
  dsimp only at h1 h2 h3 h4 h5 p1 p2 p3 p4 p5
  refine wpc_mono (c_M_count h1 h2 h3) (fun r M' hr => ?_)
  obtain ⟨k1, k2⟩ := hr
  subst k2
  rw [h4, h5] at k1
  exact ⟨_, k1, mF.rf, _, ⟨rfl, rfl⟩, J⟩
theorem jm_see (J : jM v M) (P : jP n v) : Ci L 1 zm_M_see [rV 174, iV x, iV y, iV z, iV w] M (fun u M' => mF (fun a k => 174 ≤ a) M M' ∧ ∃ v', rSe v x y z w u v' ∧ jM v' M') := by
  obtain ⟨D, Y, g, a, b⟩ := v
  obtain ⟨h1, h2, h3, h4, h5⟩ := id J
  obtain ⟨p1, p2, p3, p4, p5⟩ := P
  dsimp only at h1 h2 h3 h4 h5 p1 p2 p3 p4 p5
  refine wpc_mono (c_M_see h2 p2) (fun r M' hr => ?_)
  obtain ⟨u, hu, hh⟩ := hr
  refine ⟨u, hu, ?_⟩
  rcases hh with ⟨q1, q2⟩ | ⟨q1, q2, q3, q4, q5, q6⟩
  · rw [q1]; exact ⟨mF.rf, _, Or.inl ⟨rfl, q2⟩, J⟩
  · exact ⟨q1.up (fun a k z => by omega), _, Or.inr ⟨q2, q3, q4, q5, rfl⟩, h1.keep q1 (by omega) (by omega) (by omega), q6, h3.keep q1 (by omega) (by omega), (q1 174 6 (by omega)).trans h4, (q1 174 12 (by omega)).trans h5⟩
theorem jm_unsee (J : jM v M) (P : jP n v) (hn : n ≤ 512) : Ci L 2 zm_M_unsee [rV 174, iV x] M (fun u M' => mF (fun a k => 174 ≤ a) M M' ∧ ∃ v', rUn v x u v' ∧ jM v' M') := by
  obtain ⟨D, Y, g, a, b⟩ := v
  obtain ⟨h1, h2, h3, h4, h5⟩ := id J
  obtain ⟨p1, p2, p3, p4, p5⟩ := P
  dsimp only at h1 h2 h3 h4 h5 p1 p2 p3 p4 p5
  refine wpc_mono (c_M_unsee h2 p2 (by omega)) (fun r M' hr => ?_)
  obtain ⟨u, hu, hh⟩ := hr
  refine ⟨u, hu, ?_⟩
  rcases hh with ⟨q1, q2⟩ | ⟨q1, q7, q2, q3, q6⟩
  · rw [q1]; exact ⟨mF.rf, _, Or.inl ⟨rfl, q2⟩, J⟩
  · exact ⟨q1.up (fun a k z => by omega), _, Or.inr ⟨q2, q3, rfl⟩, h1.keep q1 (by omega) (by omega) (by omega), q6, h3.keep q1 (by omega) (by omega), (q1 174 6 (by omega)).trans h4, by rw [q7, h5]⟩
theorem jm_digest (J : jM v M) (P : jP n v) : Cl L 9 zm_M_digest [rV 174] M (fun u M' => mF (fun a k => 174 ≤ a) M M' ∧ u = xDg v.1 v.2.1 v.2.2.1 v.2.2.2.1 v.2.2.2.2 ∧ jM v M') := by
  obtain ⟨D, Y, g, a, b⟩ := v
  obtain ⟨h1, h2, h3, h4, h5⟩ := id J
  obtain ⟨p1, p2, p3, p4, p5⟩ := P
  dsimp only at h1 h2 h3 h4 h5 p1 p2 p3 p4 p5
  refine wpc_mono (c_M_digest h1 p1 h2 p2 h3 p3) (fun r M' hr => ?_)
  obtain ⟨u, hu, k1, k2⟩ := hr
  rw [h4, h5] at k1
  exact ⟨u, hu, k2.up (fun a k z => by omega), k1, J.q k2⟩
end ZJ
