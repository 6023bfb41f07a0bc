/-! what the model counts, and what the class keeps: plain numbers -/
theorem qN_zero {c : Int → Bool} : ∀ {n : Nat}, (∀ k : Int, 0 ≤ k → k < n → c k = false) → qN c n = 0 := by
  intro n
  induction n with
  | zero => intro _; rfl
  | succ n ih =>
    intro h
    simp only [qN]
    rw [ih (fun k k0 k1 => h k k0 (by omega)), h n (by omega) (by omega)]
    rfl
theorem qN_not (c : Int → Bool) : ∀ n : Nat, qN (fun k => !c k) n = n - qN c n := by
  intro n
  induction n with
  | zero => rfl
  | succ n ih =>
    have e2 : (if (!c (n : Int)) = true then (1 : Int) else 0) = 1 - (if c (n : Int) = true then 1 else 0) := by cases c (n : Int) <;> rfl
    show qN (fun k => !c k) n + (if (!c (n : Int)) = true then (1 : Int) else 0) = ((n + 1 : Nat) : Int) - (qN c n + (if c (n : Int) = true then 1 else 0))
    rw [e2, ih]
    omega
theorem qN_cut {c : Int → Bool} {n m : Nat} (h : n ≤ m) (hz : ∀ k : Int, (n : Int) ≤ k → k < m → c k = false) : qN c m = qN c n := by
  have e : m = n + (m - n) := by omega
  rw [e, qN_add, qN_zero (fun k k0 k1 => hz (k + n) (by omega) (by omega))]
  omega
theorem qPc_bm {c : Nat → Bool} {n m : Nat} (h : n ≤ m) : qPc (qBm c n) m = qN (fun k => c k.toNat) n := by
  unfold qPc
  rw [qN_cut h (fun k k0 k1 => by
    show (qBm c n).testBit k.toNat = false
    rw [qBm_bit, decide_eq_false (by omega)]; rfl)]
  refine qN_congr (fun k k0 k1 => ?_)
  rw [qBm_bit, decide_eq_true (by omega)]; rfl
/-- members and excluded copies are counted -/
theorem uG_me (D : qDt) (hb : 0 ≤ D.2.2.1) : ∀ k : Nat, ∀ s : Int, 0 ≤ s → s < (uG D k).1 → (uG D k).2.2.2.1 s = qN (fun c => decide ((uG D k).2.2.2.2 c = s)) k := by
  intro k
  induction k with
  | zero => intro s s0 s1; exact absurd (show s < 0 from s1) (by omega)
  | succ k ih =>
    intro s s0 s1
    obtain ⟨h1, h2, h3, h4, h5⟩ := uG_b D hb k
    have hc : qN (fun c => decide ((uG D (k + 1)).2.2.2.2 c = s)) k = qN (fun c => decide ((uG D k).2.2.2.2 c = s)) k := qN_congr (fun c c0 c1 => by rw [uG_so (by omega)])
    have hs : qN (fun c => decide ((uG D (k + 1)).2.2.2.2 c = s)) (k + 1) = qN (fun c => decide ((uG D k).2.2.2.2 c = s)) k + (if (uG D (k + 1)).2.2.2.2 (k : Int) = s then 1 else 0) := by
      simp only [qN, decide_eq_true_eq]
      rw [hc]
    rw [hs]
    by_cases hin : uIn D 0 (k : Int)
    · have hF : 0 ≤ uFs D (uG D k) k ∧ uFs D (uG D k) k ≤ 0 + ((uG D k).1.toNat : Int) := qFd_b _ _ _
      by_cases c2 : uFs D (uG D k) k < (uG D k).1
      · have hv : (uG D (k + 1)).2.2.2.2 (k : Int) = uFs D (uG D k) k := by rw [uG_2 hin c2]; exact qPut_eq
        have hm : (uG D (k + 1)).2.2.2.1 s = qPut (uG D k).2.2.2.1 (uFs D (uG D k) k) ((uG D k).2.2.2.1 (uFs D (uG D k) k) + 1) s := by rw [uG_2 hin c2]
        have s1 : s < (uG D k).1 := by rw [uG_2 hin c2] at s1; exact s1
        rw [hv, hm]
        by_cases e : s = uFs D (uG D k) k
        · rw [e, qPut_eq, if_pos rfl, ih _ hF.1 c2]
        · rw [qPut_ne e, if_neg (fun z => e z.symm), ih s s0 s1, Int.add_zero]
      · have hv : (uG D (k + 1)).2.2.2.2 (k : Int) = (uG D k).1 := by rw [uG_3 hin c2]; exact qPut_eq
        have hm : (uG D (k + 1)).2.2.2.1 s = qPut (uG D k).2.2.2.1 (uG D k).1 1 s := by rw [uG_3 hin c2]
        have s1 : s < (uG D k).1 + 1 := by rw [uG_3 hin c2] at s1; exact s1
        rw [hv, hm]
        by_cases e : s = (uG D k).1
        · rw [e, qPut_eq, if_pos rfl, qN_zero]
          · rfl
          · intro c c0 c1
            refine decide_eq_false (fun z => ?_)
            have h := h5 c c0 c1
            by_cases hi : uIn D 0 c
            · have := h.1 hi; omega
            · have := h.2 hi; omega
        · rw [qPut_ne e, if_neg (fun z => e z.symm), ih s s0 (by omega), Int.add_zero]
    · have hv : (uG D (k + 1)).2.2.2.2 (k : Int) = -1 := by rw [uG_1 hin]; exact qPut_eq
      have hm : (uG D (k + 1)).2.2.2.1 s = (uG D k).2.2.2.1 s := by rw [uG_1 hin]
      have s1 : s < (uG D k).1 := by rw [uG_1 hin] at s1; exact s1
      rw [hv, hm, if_neg (by omega), ih s s0 s1, Int.add_zero]
theorem uG_ex (D : qDt) : ∀ k : Nat, (uG D k).2.1 = qN (fun c => decide (¬ uIn D 0 c)) k := by
  intro k
  induction k with
  | zero => rfl
  | succ k ih =>
    have hs : qN (fun c => decide (¬ uIn D 0 c)) (k + 1) = qN (fun c => decide (¬ uIn D 0 c)) k + (if ¬ uIn D 0 (k : Int) then 1 else 0) := by
      simp only [qN, decide_eq_true_eq]
    rw [hs, ← ih]
    by_cases hin : uIn D 0 (k : Int)
    · rw [if_neg (fun z => z hin), Int.add_zero]
      by_cases c2 : uFs D (uG D k) k < (uG D k).1
      · rw [uG_2 hin c2]
      · rw [uG_3 hin c2]
    · rw [if_pos hin, uG_1 hin]
theorem uMe_n {D : qDt} (hd : mDi D) {s : Int} (s0 : 0 ≤ s) (s1 : s < uN D) : uMe D s = qN (fun c => decide (uSo D c = s)) D.2.2.2.toNat := uG_me D hd.2.1.1 _ s s0 s1
theorem uE_n (D : qDt) : uE D = qN (fun c => decide (¬ uIn D 0 c)) D.2.2.2.toNat := uG_ex D _
theorem uMk_n {D : qDt} (hd : mDi D) (s : Int) : qPc (uMk D s) 24 = qN (fun p => decide (¬ uGb D s p = 0)) (uPl D).toNat := by
  have hp := hd.pl
  unfold uMk
  rw [qPc_bm (by omega)]
  refine qN_congr (fun p p0 p1 => ?_)
  rw [show ((p.toNat : Nat) : Int) = p by omega]
theorem uDs_sym (D : qDt) (u v : Int) : uDs D u v = uDs D v u := by
  unfold uDs
  by_cases e : (0 ≤ u ∧ u < uN D) ∧ 0 ≤ v ∧ v < uN D
  · rw [if_pos e, if_pos ⟨e.2, e.1⟩, uDf_sym]
  · rw [if_neg e, if_neg (fun z => e ⟨z.2, z.1⟩)]
/-- a parent, and the distance to it -/
theorem uT_p {D : qDt} (hd : mDi D) {s : Int} (s0 : 0 ≤ s) (s1 : s < uN D) : uPm D s = (uT D).1 s ∧ (0 ≤ (uT D).2.2 s ∧ (uT D).2.2 s < uN D) ∧ (s = 0 → (uT D).1 s = -1 ∧ (uT D).2.1 s = 0) ∧ (¬ s = 0 → (0 ≤ (uT D).1 s ∧ (uT D).1 s < uN D) ∧ (uT D).2.2 ((uT D).1 s) < (uT D).2.2 s ∧ (uT D).2.1 s = uDs D s ((uT D).1 s)) := by
  have hp := hd.pl
  obtain ⟨a1, a2, a3⟩ := uT_all D hp.1 hp.2 s s0 s1
  exact ⟨if_pos ⟨s0, s1⟩, a1, fun e => (a2 e).2, fun e => ⟨(a3 e).1, (a3 e).2.1, by rw [uDs_sym]; exact (a3 e).2.2⟩⟩
/-- parents: none, or a state that joined before -/
theorem uT_u {D : qDt} (hd : mDi D) {s : Int} (s0 : 0 ≤ s) (s1 : s < uN D) : (uT D).1 s = -1 ∨ (0 ≤ (uT D).1 s ∧ (uT D).1 s < uN D) ∧ (uT D).2.2 ((uT D).1 s) < (uT D).2.2 s := by
  obtain ⟨_, _, a2, a3⟩ := uT_p hd s0 s1
  by_cases e : s = 0
  · exact Or.inl (a2 e).1
  · exact Or.inr ⟨(a3 e).1, (a3 e).2.1⟩
theorem uGl_n (D : qDt) (p rd : Int) (n : Nat) : uGl D p rd n (-1) = 0 := by
  cases n with
  | zero => rfl
  | succ n => simp only [uGl]; rfl
theorem uAc_n (D : qDt) (n : Nat) : uAc D n (-1) = 0 := by
  cases n with
  | zero => rfl
  | succ n => simp only [uAc]; rfl
theorem uGl_01 (D : qDt) (p rd : Int) : ∀ (n : Nat) (a : Int), uGl D p rd n a = 0 ∨ uGl D p rd n a = 1 := by
  intro n
  induction n with
  | zero => intro a; exact Or.inl rfl
  | succ n ih =>
    intro a
    simp only [uGl]
    split
    · exact Or.inl rfl
    · split
      · exact Or.inr rfl
      · exact ih _
theorem uGb_01 (D : qDt) (x p : Int) : uGb D x p = 0 ∨ uGb D x p = 1 := by
  unfold uGb
  split
  · exact Or.inl rfl
  · exact uGl_01 _ _ _ _ _
theorem uAc_b (D : qDt) : ∀ (n : Nat) (a : Int), 0 ≤ uAc D n a ∧ uAc D n a ≤ n := by
  intro n
  induction n with
  | zero => intro a; exact ⟨Int.le_refl _, Int.le_refl _⟩
  | succ n ih =>
    intro a
    simp only [uAc]
    have := ih (uPm D a)
    split <;> omega
/-- states without children -/
theorem uCh_n {D : qDt} (hd : mDi D) : uN D - qPc (uPr D) 24 = qN (fun s => !qEx (fun t => decide ((uT D).1 t = s)) (uN D).toNat) (uN D).toNat := by
  have hn := uN_m hd
  rw [qN_not]
  unfold uPr
  rw [qPc_bm (by omega)]
  have e1 : ∀ k : Int, 0 ≤ k → k < 24 → qEx (fun s => decide (1 ≤ s ∧ (uT D).1 s = ((k.toNat : Nat) : Int))) (uN D).toNat = qEx (fun t => decide ((uT D).1 t = k)) (uN D).toNat := fun k k0 k1 => by
    refine qEx_congr (fun s s0 s1 => ?_)
    rw [show ((k.toNat : Nat) : Int) = k by omega, Bool.eq_iff_iff, decide_eq_true_iff, decide_eq_true_iff]
    refine ⟨fun z => z.2, fun z => ⟨?_, z⟩⟩
    by_cases e : s = 0
    · have := ((uT_p hd s0 (by omega)).2.2.1 e).1
      omega
    · omega
  rw [qN_congr (c' := fun k => qEx (fun t => decide ((uT D).1 t = k)) (uN D).toNat) (fun k k0 k1 => e1 k k0 (by omega))]
  rw [qN_cut (n := (uN D).toNat) (by omega) (fun k k0 k1 => by
    cases e : qEx (fun t => decide ((uT D).1 t = k)) (uN D).toNat
    · rfl
    · obtain ⟨t, t0, t1, t2⟩ := (qEx_iff _ _).1 e
      have := uT_u hd t0 (by omega)
      have := of_decide_eq_true t2
      omega)]
  omega
/-- a copy by itself: all letters are paired -/
theorem zKp_xx (x : Int) : zKc (zKp x x) = 0 := by
  unfold zKp
  rw [if_pos rfl]
  rfl
theorem zVl_xx {f : Int → Int} {n b : Int} (hb : 0 ≤ b) : ∀ (r : Nat) (i : Int), n - i = r → zVl f f n n b i i = 0 := by
  intro r
  induction r with
  | zero =>
    intro i h
    rw [zVl_rec, if_neg (by omega), if_pos (by omega)]
  | succ r ih =>
    intro i h
    have h1 := ih (i + 1) (by omega)
    have h2 := zVl_0 (f := f) (g := f) (n1 := n) (n2 := n) (b := b) i i
    have h3 := zVl_rec (f := f) (g := f) (n1 := n) (n2 := n) (b := b) i i
    rw [if_neg (by omega), if_neg (by omega), zKp_xx, h1] at h3
    have h4 := qMin_le (0 + 0) (2 + zVl f f n n b (i + 1) i) (2 + zVl f f n n b i (i + 1))
    omega
theorem qPs_xx {f : Int → Int} {n b : Int} (hb : 0 ≤ b) : ∀ k : Nat, (k : Int) ≤ n → qPs f f n n b k = ((k : Int), (k : Int)) ∧ ((k : Int) < n → qSt f f n n b k = 0) := by
  have hs : ∀ k : Nat, qPs f f n n b k = ((k : Int), (k : Int)) → (k : Int) < n → qSt f f n n b k = 0 := fun k e hk => by
    have q1 := zVl_xx (f := f) (n := n) hb (n - k).toNat k (by omega)
    have q2 := zVl_xx (f := f) (n := n) hb (n - (k + 1)).toNat (k + 1) (by omega)
    have q3 := zKp_xx (f k)
    unfold qSt qDc
    rw [e]
    exact if_pos ⟨hk, hk, by dsimp only; omega⟩
  intro k
  induction k with
  | zero => intro h; exact ⟨rfl, hs 0 rfl⟩
  | succ k ih =>
    intro h
    obtain ⟨h1, h2⟩ := ih (by omega)
    have h3 := h2 (by omega)
    obtain ⟨p1, p2⟩ := qPs_st f f n n b k
    rw [h3, h1, if_neg (by decide)] at p1
    rw [h3, h1, if_neg (by decide)] at p2
    dsimp only at p1 p2
    have e : qPs f f n n b (k + 1) = (((k + 1 : Nat) : Int), ((k + 1 : Nat) : Int)) := Prod.ext (by rw [p1]; omega) (by rw [p2]; omega)
    exact ⟨e, hs _ e⟩
theorem qRf_xx {f : Int → Int} {n b : Int} (hb : 0 ≤ b) : ∀ k : Nat, (k : Int) ≤ n → ∀ p : Int, 0 ≤ p → p < k → qRf f f n n b k p = f p := by
  intro k
  induction k with
  | zero => intro _ p p0 p1; exact absurd p1 (by omega)
  | succ k ih =>
    intro h p p0 p1
    obtain ⟨h1, h2⟩ := qPs_xx (f := f) (n := n) (b := b) hb k (by omega)
    have h3 := h2 (by omega)
    simp only [qRf]
    rw [h3, h1]
    dsimp only
    by_cases e : p = k
    · rw [if_pos ⟨by decide, e⟩, if_pos rfl, e]
    · rw [if_neg (fun z => e z.2)]
      exact ih (by omega) p p0 (by omega)
theorem uRd_0 {D : qDt} (hd : mDi D) (hn : 0 < D.2.2.2) {p : Int} (p0 : 0 ≤ p) (p1 : p < uPl D) : uRd D 0 p = D.1 0 p := by
  have hl := hd.l (Int.le_refl 0) hn
  have hp : uPl D = D.2.1 0 := if_pos hn
  have hb := hd.2.1.1
  obtain ⟨h1, _⟩ := qPs_xx (f := D.1 0) (n := D.2.1 0) (b := D.2.2.1) hb (D.2.1 0).toNat (by omega)
  unfold uRd
  have e : 48 = (D.2.1 0).toNat + (48 - (D.2.1 0).toNat) := by omega
  rw [e, qRf_end (by rw [h1]; show (((D.2.1 0).toNat : Nat) : Int) = _; omega)]
  exact qRf_xx hb _ (by omega) p p0 (by omega)
theorem uN_pos {D : qDt} (hd : mDi D) (h : 0 < D.2.2.2) : 0 < uN D := ((uG_b D hd.2.1.1 D.2.2.2.toNat).2.2.1 (by omega)).1
